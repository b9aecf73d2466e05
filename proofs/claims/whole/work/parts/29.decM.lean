/-! Decode rows, laid by program. -/
theorem dM_thrown_0 : decode prog_11_method_2_code 0 = .ok (.aload_n 0, 1) := by decide +kernel
theorem dM_thrown_1 : decode prog_11_method_2_code 1 = .ok (.getfield 49, 3) := by decide +kernel
theorem dM_thrown_4 : decode prog_11_method_2_code 4 = .ok (.ireturn, 1) := by decide +kernel
theorem dM_isGate_0 : decode prog_11_method_3_code 0 = .ok (.iload_n 1, 1) := by decide +kernel
theorem dM_isGate_1 : decode prog_11_method_3_code 1 = .ok (.iconst 1, 1) := by decide +kernel
theorem dM_isGate_2 : decode prog_11_method_3_code 2 = .ok (.if_icmp .lt (15), 3) := by decide +kernel
theorem dM_isGate_5 : decode prog_11_method_3_code 5 = .ok (.iload_n 1, 1) := by decide +kernel
theorem dM_isGate_6 : decode prog_11_method_3_code 6 = .ok (.aload_n 0, 1) := by decide +kernel
theorem dM_isGate_7 : decode prog_11_method_3_code 7 = .ok (.getfield 53, 3) := by decide +kernel
theorem dM_isGate_10 : decode prog_11_method_3_code 10 = .ok (.if_icmp .gt (7), 3) := by decide +kernel
theorem dM_isGate_13 : decode prog_11_method_3_code 13 = .ok (.iconst 1, 1) := by decide +kernel
theorem dM_isGate_14 : decode prog_11_method_3_code 14 = .ok (.goto (4), 3) := by decide +kernel
theorem dM_isGate_17 : decode prog_11_method_3_code 17 = .ok (.iconst 0, 1) := by decide +kernel
theorem dM_isGate_18 : decode prog_11_method_3_code 18 = .ok (.ireturn, 1) := by decide +kernel
theorem dM_isOuter_0 : decode prog_11_method_4_code 0 = .ok (.iload_n 0, 1) := by decide +kernel
theorem dM_isOuter_1 : decode prog_11_method_4_code 1 = .ok (.iconst (-1), 1) := by decide +kernel
theorem dM_isOuter_2 : decode prog_11_method_4_code 2 = .ok (.if_icmp .gt (13), 3) := by decide +kernel
theorem dM_isOuter_5 : decode prog_11_method_4_code 5 = .ok (.iload_n 0, 1) := by decide +kernel
theorem dM_isOuter_6 : decode prog_11_method_4_code 6 = .ok (.bipush (-3), 2) := by decide +kernel
theorem dM_isOuter_8 : decode prog_11_method_4_code 8 = .ok (.if_icmp .lt (7), 3) := by decide +kernel
theorem dM_isOuter_11 : decode prog_11_method_4_code 11 = .ok (.iconst 1, 1) := by decide +kernel
theorem dM_isOuter_12 : decode prog_11_method_4_code 12 = .ok (.goto (4), 3) := by decide +kernel
theorem dM_isOuter_15 : decode prog_11_method_4_code 15 = .ok (.iconst 0, 1) := by decide +kernel
theorem dM_isOuter_16 : decode prog_11_method_4_code 16 = .ok (.ireturn, 1) := by decide +kernel
theorem dM_pins_0 : decode prog_11_method_5_code 0 = .ok (.aload_n 0, 1) := by decide +kernel
theorem dM_pins_1 : decode prog_11_method_5_code 1 = .ok (.getfield 7, 3) := by decide +kernel
theorem dM_pins_4 : decode prog_11_method_5_code 4 = .ok (.iload_n 1, 1) := by decide +kernel
theorem dM_pins_5 : decode prog_11_method_5_code 5 = .ok (.iaload, 1) := by decide +kernel
theorem dM_pins_6 : decode prog_11_method_5_code 6 = .ok (.iconst 2, 1) := by decide +kernel
theorem dM_pins_7 : decode prog_11_method_5_code 7 = .ok (.if_icmp .ge (7), 3) := by decide +kernel
theorem dM_pins_10 : decode prog_11_method_5_code 10 = .ok (.iconst 1, 1) := by decide +kernel
theorem dM_pins_11 : decode prog_11_method_5_code 11 = .ok (.goto (4), 3) := by decide +kernel
theorem dM_pins_14 : decode prog_11_method_5_code 14 = .ok (.iconst 2, 1) := by decide +kernel
theorem dM_pins_15 : decode prog_11_method_5_code 15 = .ok (.ireturn, 1) := by decide +kernel
theorem dM_place_0 : decode prog_11_method_6_code 0 = .ok (.iload_n 1, 1) := by decide +kernel
theorem dM_place_1 : decode prog_11_method_6_code 1 = .ok (.invokestatic 56, 3) := by decide +kernel
theorem dM_place_4 : decode prog_11_method_6_code 4 = .ok (.ifCond .eq (16), 3) := by decide +kernel
theorem dM_place_7 : decode prog_11_method_6_code 7 = .ok (.iload_n 2, 1) := by decide +kernel
theorem dM_place_8 : decode prog_11_method_6_code 8 = .ok (.ifCond .ne (10), 3) := by decide +kernel
theorem dM_place_11 : decode prog_11_method_6_code 11 = .ok (.bipush (23), 2) := by decide +kernel
theorem dM_place_13 : decode prog_11_method_6_code 13 = .ok (.iload_n 1, 1) := by decide +kernel
theorem dM_place_14 : decode prog_11_method_6_code 14 = .ok (.isub, 1) := by decide +kernel
theorem dM_place_15 : decode prog_11_method_6_code 15 = .ok (.goto (4), 3) := by decide +kernel
theorem dM_place_18 : decode prog_11_method_6_code 18 = .ok (.iconst (-1), 1) := by decide +kernel
theorem dM_place_19 : decode prog_11_method_6_code 19 = .ok (.ireturn, 1) := by decide +kernel
theorem dM_place_20 : decode prog_11_method_6_code 20 = .ok (.aload_n 0, 1) := by decide +kernel
theorem dM_place_21 : decode prog_11_method_6_code 21 = .ok (.iload_n 1, 1) := by decide +kernel
theorem dM_place_22 : decode prog_11_method_6_code 22 = .ok (.invokevirtual 60, 3) := by decide +kernel
theorem dM_place_25 : decode prog_11_method_6_code 25 = .ok (.ifCond .eq (26), 3) := by decide +kernel
theorem dM_place_28 : decode prog_11_method_6_code 28 = .ok (.iload_n 2, 1) := by decide +kernel
theorem dM_place_29 : decode prog_11_method_6_code 29 = .ok (.ifCond .lt (22), 3) := by decide +kernel
theorem dM_place_32 : decode prog_11_method_6_code 32 = .ok (.iload_n 2, 1) := by decide +kernel
theorem dM_place_33 : decode prog_11_method_6_code 33 = .ok (.aload_n 0, 1) := by decide +kernel
theorem dM_place_34 : decode prog_11_method_6_code 34 = .ok (.iload_n 1, 1) := by decide +kernel
theorem dM_place_35 : decode prog_11_method_6_code 35 = .ok (.invokevirtual 63, 3) := by decide +kernel
theorem dM_place_38 : decode prog_11_method_6_code 38 = .ok (.if_icmp .ge (13), 3) := by decide +kernel
theorem dM_place_41 : decode prog_11_method_6_code 41 = .ok (.iconst 2, 1) := by decide +kernel
theorem dM_place_42 : decode prog_11_method_6_code 42 = .ok (.iload_n 1, 1) := by decide +kernel
theorem dM_place_43 : decode prog_11_method_6_code 43 = .ok (.imul, 1) := by decide +kernel
theorem dM_place_44 : decode prog_11_method_6_code 44 = .ok (.iconst 2, 1) := by decide +kernel
theorem dM_place_45 : decode prog_11_method_6_code 45 = .ok (.isub, 1) := by decide +kernel
theorem dM_place_46 : decode prog_11_method_6_code 46 = .ok (.iload_n 2, 1) := by decide +kernel
theorem dM_place_47 : decode prog_11_method_6_code 47 = .ok (.iadd, 1) := by decide +kernel
theorem dM_place_48 : decode prog_11_method_6_code 48 = .ok (.goto (4), 3) := by decide +kernel
theorem dM_place_51 : decode prog_11_method_6_code 51 = .ok (.iconst (-1), 1) := by decide +kernel
theorem dM_place_52 : decode prog_11_method_6_code 52 = .ok (.ireturn, 1) := by decide +kernel
theorem dM_isWire_0 : decode prog_11_method_7_code 0 = .ok (.iload_n 1, 1) := by decide +kernel
theorem dM_isWire_1 : decode prog_11_method_7_code 1 = .ok (.ifCond .lt (16), 3) := by decide +kernel
theorem dM_isWire_4 : decode prog_11_method_7_code 4 = .ok (.aload_n 0, 1) := by decide +kernel
theorem dM_isWire_5 : decode prog_11_method_7_code 5 = .ok (.getfield 16, 3) := by decide +kernel
theorem dM_isWire_8 : decode prog_11_method_7_code 8 = .ok (.iload_n 1, 1) := by decide +kernel
theorem dM_isWire_9 : decode prog_11_method_7_code 9 = .ok (.iaload, 1) := by decide +kernel
theorem dM_isWire_10 : decode prog_11_method_7_code 10 = .ok (.ifCond .eq (7), 3) := by decide +kernel
theorem dM_isWire_13 : decode prog_11_method_7_code 13 = .ok (.iconst 1, 1) := by decide +kernel
theorem dM_isWire_14 : decode prog_11_method_7_code 14 = .ok (.goto (4), 3) := by decide +kernel
theorem dM_isWire_17 : decode prog_11_method_7_code 17 = .ok (.iconst 0, 1) := by decide +kernel
theorem dM_isWire_18 : decode prog_11_method_7_code 18 = .ok (.ireturn, 1) := by decide +kernel
theorem dM_sinkOf_0 : decode prog_11_method_8_code 0 = .ok (.iload_n 0, 1) := by decide +kernel
theorem dM_sinkOf_1 : decode prog_11_method_8_code 1 = .ok (.bipush (24), 2) := by decide +kernel
theorem dM_sinkOf_3 : decode prog_11_method_8_code 3 = .ok (.if_icmp .ge (11), 3) := by decide +kernel
theorem dM_sinkOf_6 : decode prog_11_method_8_code 6 = .ok (.iload_n 0, 1) := by decide +kernel
theorem dM_sinkOf_7 : decode prog_11_method_8_code 7 = .ok (.iconst 2, 1) := by decide +kernel
theorem dM_sinkOf_8 : decode prog_11_method_8_code 8 = .ok (.idiv, 1) := by decide +kernel
theorem dM_sinkOf_9 : decode prog_11_method_8_code 9 = .ok (.iconst 1, 1) := by decide +kernel
theorem dM_sinkOf_10 : decode prog_11_method_8_code 10 = .ok (.iadd, 1) := by decide +kernel
theorem dM_sinkOf_11 : decode prog_11_method_8_code 11 = .ok (.goto (4), 3) := by decide +kernel
theorem dM_sinkOf_14 : decode prog_11_method_8_code 14 = .ok (.iconst 0, 1) := by decide +kernel
theorem dM_sinkOf_15 : decode prog_11_method_8_code 15 = .ok (.ireturn, 1) := by decide +kernel
theorem dM_begin_0 : decode prog_11_method_9_code 0 = .ok (.iconst 0, 1) := by decide +kernel
theorem dM_begin_1 : decode prog_11_method_9_code 1 = .ok (.istore_n 1, 1) := by decide +kernel
theorem dM_begin_2 : decode prog_11_method_9_code 2 = .ok (.iload_n 1, 1) := by decide +kernel
theorem dM_begin_3 : decode prog_11_method_9_code 3 = .ok (.sipush (1080), 3) := by decide +kernel
theorem dM_begin_6 : decode prog_11_method_9_code 6 = .ok (.if_icmp .ge (21), 3) := by decide +kernel
theorem dM_begin_9 : decode prog_11_method_9_code 9 = .ok (.aload_n 0, 1) := by decide +kernel
theorem dM_begin_10 : decode prog_11_method_9_code 10 = .ok (.getfield 25, 3) := by decide +kernel
theorem dM_begin_13 : decode prog_11_method_9_code 13 = .ok (.iload_n 1, 1) := by decide +kernel
theorem dM_begin_14 : decode prog_11_method_9_code 14 = .ok (.aload_n 0, 1) := by decide +kernel
theorem dM_begin_15 : decode prog_11_method_9_code 15 = .ok (.getfield 22, 3) := by decide +kernel
theorem dM_begin_18 : decode prog_11_method_9_code 18 = .ok (.iload_n 1, 1) := by decide +kernel
theorem dM_begin_19 : decode prog_11_method_9_code 19 = .ok (.iaload, 1) := by decide +kernel
theorem dM_begin_20 : decode prog_11_method_9_code 20 = .ok (.iastore, 1) := by decide +kernel
theorem dM_begin_21 : decode prog_11_method_9_code 21 = .ok (.iinc 1 (1), 3) := by decide +kernel
theorem dM_begin_24 : decode prog_11_method_9_code 24 = .ok (.goto (-22), 3) := by decide +kernel
theorem dM_begin_27 : decode prog_11_method_9_code 27 = .ok (.return_, 1) := by decide +kernel
theorem dM_gate_0 : decode prog_11_method_10_code 0 = .ok (.aload_n 0, 1) := by decide +kernel
theorem dM_gate_1 : decode prog_11_method_10_code 1 = .ok (.iload_n 1, 1) := by decide +kernel
theorem dM_gate_2 : decode prog_11_method_10_code 2 = .ok (.ifCond .lt (18), 3) := by decide +kernel
theorem dM_gate_5 : decode prog_11_method_10_code 5 = .ok (.iload_n 1, 1) := by decide +kernel
theorem dM_gate_6 : decode prog_11_method_10_code 6 = .ok (.iconst 4, 1) := by decide +kernel
theorem dM_gate_7 : decode prog_11_method_10_code 7 = .ok (.if_icmp .gt (13), 3) := by decide +kernel
theorem dM_gate_10 : decode prog_11_method_10_code 10 = .ok (.iload_n 2, 1) := by decide +kernel
theorem dM_gate_11 : decode prog_11_method_10_code 11 = .ok (.ifCond .lt (9), 3) := by decide +kernel
theorem dM_gate_14 : decode prog_11_method_10_code 14 = .ok (.iload_n 2, 1) := by decide +kernel
theorem dM_gate_15 : decode prog_11_method_10_code 15 = .ok (.bipush (50), 2) := by decide +kernel
theorem dM_gate_17 : decode prog_11_method_10_code 17 = .ok (.if_icmp .le (7), 3) := by decide +kernel
theorem dM_gate_20 : decode prog_11_method_10_code 20 = .ok (.iconst 1, 1) := by decide +kernel
theorem dM_gate_21 : decode prog_11_method_10_code 21 = .ok (.goto (17), 3) := by decide +kernel
theorem dM_gate_24 : decode prog_11_method_10_code 24 = .ok (.aload_n 0, 1) := by decide +kernel
theorem dM_gate_25 : decode prog_11_method_10_code 25 = .ok (.getfield 53, 3) := by decide +kernel
theorem dM_gate_28 : decode prog_11_method_10_code 28 = .ok (.bipush (12), 2) := by decide +kernel
theorem dM_gate_30 : decode prog_11_method_10_code 30 = .ok (.if_icmp .ne (7), 3) := by decide +kernel
theorem dM_gate_33 : decode prog_11_method_10_code 33 = .ok (.iconst 2, 1) := by decide +kernel
theorem dM_gate_34 : decode prog_11_method_10_code 34 = .ok (.goto (4), 3) := by decide +kernel
theorem dM_gate_37 : decode prog_11_method_10_code 37 = .ok (.iconst 0, 1) := by decide +kernel
theorem dM_gate_38 : decode prog_11_method_10_code 38 = .ok (.putfield 49, 3) := by decide +kernel
theorem dM_gate_41 : decode prog_11_method_10_code 41 = .ok (.aload_n 0, 1) := by decide +kernel
theorem dM_gate_42 : decode prog_11_method_10_code 42 = .ok (.getfield 49, 3) := by decide +kernel
theorem dM_gate_45 : decode prog_11_method_10_code 45 = .ok (.ifCond .eq (5), 3) := by decide +kernel
theorem dM_gate_48 : decode prog_11_method_10_code 48 = .ok (.iconst 0, 1) := by decide +kernel
theorem dM_gate_49 : decode prog_11_method_10_code 49 = .ok (.ireturn, 1) := by decide +kernel
theorem dM_gate_50 : decode prog_11_method_10_code 50 = .ok (.aload_n 0, 1) := by decide +kernel
theorem dM_gate_51 : decode prog_11_method_10_code 51 = .ok (.dup, 1) := by decide +kernel
theorem dM_gate_52 : decode prog_11_method_10_code 52 = .ok (.getfield 53, 3) := by decide +kernel
theorem dM_gate_55 : decode prog_11_method_10_code 55 = .ok (.iconst 1, 1) := by decide +kernel
theorem dM_gate_56 : decode prog_11_method_10_code 56 = .ok (.iadd, 1) := by decide +kernel
theorem dM_gate_57 : decode prog_11_method_10_code 57 = .ok (.putfield 53, 3) := by decide +kernel
theorem dM_gate_60 : decode prog_11_method_10_code 60 = .ok (.aload_n 0, 1) := by decide +kernel
theorem dM_gate_61 : decode prog_11_method_10_code 61 = .ok (.getfield 7, 3) := by decide +kernel
theorem dM_gate_64 : decode prog_11_method_10_code 64 = .ok (.aload_n 0, 1) := by decide +kernel
theorem dM_gate_65 : decode prog_11_method_10_code 65 = .ok (.getfield 53, 3) := by decide +kernel
theorem dM_gate_68 : decode prog_11_method_10_code 68 = .ok (.iload_n 1, 1) := by decide +kernel
theorem dM_gate_69 : decode prog_11_method_10_code 69 = .ok (.iastore, 1) := by decide +kernel
theorem dM_gate_70 : decode prog_11_method_10_code 70 = .ok (.aload_n 0, 1) := by decide +kernel
theorem dM_gate_71 : decode prog_11_method_10_code 71 = .ok (.getfield 13, 3) := by decide +kernel
theorem dM_gate_74 : decode prog_11_method_10_code 74 = .ok (.aload_n 0, 1) := by decide +kernel
theorem dM_gate_75 : decode prog_11_method_10_code 75 = .ok (.getfield 53, 3) := by decide +kernel
theorem dM_gate_78 : decode prog_11_method_10_code 78 = .ok (.iload_n 2, 1) := by decide +kernel
theorem dM_gate_79 : decode prog_11_method_10_code 79 = .ok (.iastore, 1) := by decide +kernel
theorem dM_gate_80 : decode prog_11_method_10_code 80 = .ok (.aload_n 0, 1) := by decide +kernel
theorem dM_gate_81 : decode prog_11_method_10_code 81 = .ok (.invokevirtual 67, 3) := by decide +kernel
theorem dM_gate_84 : decode prog_11_method_10_code 84 = .ok (.aload_n 0, 1) := by decide +kernel
theorem dM_gate_85 : decode prog_11_method_10_code 85 = .ok (.getfield 53, 3) := by decide +kernel
theorem dM_gate_88 : decode prog_11_method_10_code 88 = .ok (.ireturn, 1) := by decide +kernel
theorem dM_wire_0 : decode prog_11_method_11_code 0 = .ok (.aload_n 0, 1) := by decide +kernel
theorem dM_wire_1 : decode prog_11_method_11_code 1 = .ok (.iload_n 1, 1) := by decide +kernel
theorem dM_wire_2 : decode prog_11_method_11_code 2 = .ok (.invokevirtual 60, 3) := by decide +kernel
theorem dM_wire_5 : decode prog_11_method_11_code 5 = .ok (.ifCond .ne (10), 3) := by decide +kernel
theorem dM_wire_8 : decode prog_11_method_11_code 8 = .ok (.iload_n 1, 1) := by decide +kernel
theorem dM_wire_9 : decode prog_11_method_11_code 9 = .ok (.invokestatic 56, 3) := by decide +kernel
theorem dM_wire_12 : decode prog_11_method_11_code 12 = .ok (.ifCond .eq (22), 3) := by decide +kernel
theorem dM_wire_15 : decode prog_11_method_11_code 15 = .ok (.aload_n 0, 1) := by decide +kernel
theorem dM_wire_16 : decode prog_11_method_11_code 16 = .ok (.iload_n 2, 1) := by decide +kernel
theorem dM_wire_17 : decode prog_11_method_11_code 17 = .ok (.invokevirtual 60, 3) := by decide +kernel
theorem dM_wire_20 : decode prog_11_method_11_code 20 = .ok (.ifCond .ne (10), 3) := by decide +kernel
theorem dM_wire_23 : decode prog_11_method_11_code 23 = .ok (.iload_n 2, 1) := by decide +kernel
theorem dM_wire_24 : decode prog_11_method_11_code 24 = .ok (.invokestatic 56, 3) := by decide +kernel
theorem dM_wire_27 : decode prog_11_method_11_code 27 = .ok (.ifCond .eq (7), 3) := by decide +kernel
theorem dM_wire_30 : decode prog_11_method_11_code 30 = .ok (.iconst 1, 1) := by decide +kernel
theorem dM_wire_31 : decode prog_11_method_11_code 31 = .ok (.goto (4), 3) := by decide +kernel
theorem dM_wire_34 : decode prog_11_method_11_code 34 = .ok (.iconst 0, 1) := by decide +kernel
theorem dM_wire_35 : decode prog_11_method_11_code 35 = .ok (.istore 5, 2) := by decide +kernel
theorem dM_wire_37 : decode prog_11_method_11_code 37 = .ok (.aload_n 0, 1) := by decide +kernel
theorem dM_wire_38 : decode prog_11_method_11_code 38 = .ok (.iload_n 2, 1) := by decide +kernel
theorem dM_wire_39 : decode prog_11_method_11_code 39 = .ok (.iload_n 3, 1) := by decide +kernel
theorem dM_wire_40 : decode prog_11_method_11_code 40 = .ok (.invokevirtual 70, 3) := by decide +kernel
theorem dM_wire_43 : decode prog_11_method_11_code 43 = .ok (.istore 6, 2) := by decide +kernel
theorem dM_wire_45 : decode prog_11_method_11_code 45 = .ok (.aload_n 0, 1) := by decide +kernel
theorem dM_wire_46 : decode prog_11_method_11_code 46 = .ok (.iload 5, 2) := by decide +kernel
theorem dM_wire_48 : decode prog_11_method_11_code 48 = .ok (.ifCond .ne (7), 3) := by decide +kernel
theorem dM_wire_51 : decode prog_11_method_11_code 51 = .ok (.iconst 1, 1) := by decide +kernel
theorem dM_wire_52 : decode prog_11_method_11_code 52 = .ok (.goto (24), 3) := by decide +kernel
theorem dM_wire_55 : decode prog_11_method_11_code 55 = .ok (.iload 6, 2) := by decide +kernel
theorem dM_wire_57 : decode prog_11_method_11_code 57 = .ok (.ifCond .lt (14), 3) := by decide +kernel
theorem dM_wire_60 : decode prog_11_method_11_code 60 = .ok (.iload 4, 2) := by decide +kernel
theorem dM_wire_62 : decode prog_11_method_11_code 62 = .ok (.ifCond .lt (9), 3) := by decide +kernel
theorem dM_wire_65 : decode prog_11_method_11_code 65 = .ok (.iload 4, 2) := by decide +kernel
theorem dM_wire_67 : decode prog_11_method_11_code 67 = .ok (.iconst 4, 1) := by decide +kernel
theorem dM_wire_68 : decode prog_11_method_11_code 68 = .ok (.if_icmp .le (7), 3) := by decide +kernel
theorem dM_wire_71 : decode prog_11_method_11_code 71 = .ok (.iconst 2, 1) := by decide +kernel
theorem dM_wire_72 : decode prog_11_method_11_code 72 = .ok (.goto (4), 3) := by decide +kernel
theorem dM_wire_75 : decode prog_11_method_11_code 75 = .ok (.iconst 0, 1) := by decide +kernel
theorem dM_wire_76 : decode prog_11_method_11_code 76 = .ok (.putfield 49, 3) := by decide +kernel
theorem dM_wire_79 : decode prog_11_method_11_code 79 = .ok (.aload_n 0, 1) := by decide +kernel
theorem dM_wire_80 : decode prog_11_method_11_code 80 = .ok (.getfield 49, 3) := by decide +kernel
theorem dM_wire_83 : decode prog_11_method_11_code 83 = .ok (.ifCond .eq (4), 3) := by decide +kernel
theorem dM_wire_86 : decode prog_11_method_11_code 86 = .ok (.return_, 1) := by decide +kernel
theorem dM_wire_87 : decode prog_11_method_11_code 87 = .ok (.aload_n 0, 1) := by decide +kernel
theorem dM_wire_88 : decode prog_11_method_11_code 88 = .ok (.getfield 16, 3) := by decide +kernel
theorem dM_wire_91 : decode prog_11_method_11_code 91 = .ok (.iload 6, 2) := by decide +kernel
theorem dM_wire_93 : decode prog_11_method_11_code 93 = .ok (.iload_n 1, 1) := by decide +kernel
theorem dM_wire_94 : decode prog_11_method_11_code 94 = .ok (.iastore, 1) := by decide +kernel
theorem dM_wire_95 : decode prog_11_method_11_code 95 = .ok (.aload_n 0, 1) := by decide +kernel
theorem dM_wire_96 : decode prog_11_method_11_code 96 = .ok (.getfield 19, 3) := by decide +kernel
theorem dM_wire_99 : decode prog_11_method_11_code 99 = .ok (.iload 6, 2) := by decide +kernel
theorem dM_wire_101 : decode prog_11_method_11_code 101 = .ok (.iload 4, 2) := by decide +kernel
theorem dM_wire_103 : decode prog_11_method_11_code 103 = .ok (.iastore, 1) := by decide +kernel
theorem dM_wire_104 : decode prog_11_method_11_code 104 = .ok (.iconst 0, 1) := by decide +kernel
theorem dM_wire_105 : decode prog_11_method_11_code 105 = .ok (.istore 7, 2) := by decide +kernel
theorem dM_wire_107 : decode prog_11_method_11_code 107 = .ok (.iload 7, 2) := by decide +kernel
theorem dM_wire_109 : decode prog_11_method_11_code 109 = .ok (.bipush (40), 2) := by decide +kernel
theorem dM_wire_111 : decode prog_11_method_11_code 111 = .ok (.if_icmp .ge (23), 3) := by decide +kernel
theorem dM_wire_114 : decode prog_11_method_11_code 114 = .ok (.aload_n 0, 1) := by decide +kernel
theorem dM_wire_115 : decode prog_11_method_11_code 115 = .ok (.getfield 22, 3) := by decide +kernel
theorem dM_wire_118 : decode prog_11_method_11_code 118 = .ok (.bipush (40), 2) := by decide +kernel
theorem dM_wire_120 : decode prog_11_method_11_code 120 = .ok (.iload 6, 2) := by decide +kernel
theorem dM_wire_122 : decode prog_11_method_11_code 122 = .ok (.imul, 1) := by decide +kernel
theorem dM_wire_123 : decode prog_11_method_11_code 123 = .ok (.iload 7, 2) := by decide +kernel
theorem dM_wire_125 : decode prog_11_method_11_code 125 = .ok (.iadd, 1) := by decide +kernel
theorem dM_wire_126 : decode prog_11_method_11_code 126 = .ok (.iconst 2, 1) := by decide +kernel
theorem dM_wire_127 : decode prog_11_method_11_code 127 = .ok (.iastore, 1) := by decide +kernel
theorem dM_wire_128 : decode prog_11_method_11_code 128 = .ok (.iinc 7 (1), 3) := by decide +kernel
theorem dM_wire_131 : decode prog_11_method_11_code 131 = .ok (.goto (-24), 3) := by decide +kernel
theorem dM_wire_134 : decode prog_11_method_11_code 134 = .ok (.aload_n 0, 1) := by decide +kernel
theorem dM_wire_135 : decode prog_11_method_11_code 135 = .ok (.invokevirtual 67, 3) := by decide +kernel
theorem dM_wire_138 : decode prog_11_method_11_code 138 = .ok (.return_, 1) := by decide +kernel
theorem dM_isRegister_0 : decode prog_11_method_12_code 0 = .ok (.aload_n 0, 1) := by decide +kernel
theorem dM_isRegister_1 : decode prog_11_method_12_code 1 = .ok (.iload_n 1, 1) := by decide +kernel
theorem dM_isRegister_2 : decode prog_11_method_12_code 2 = .ok (.invokevirtual 74, 3) := by decide +kernel
theorem dM_isRegister_5 : decode prog_11_method_12_code 5 = .ok (.ifCond .eq (21), 3) := by decide +kernel
theorem dM_isRegister_8 : decode prog_11_method_12_code 8 = .ok (.iload_n 2, 1) := by decide +kernel
theorem dM_isRegister_9 : decode prog_11_method_12_code 9 = .ok (.ifCond .lt (17), 3) := by decide +kernel
theorem dM_isRegister_12 : decode prog_11_method_12_code 12 = .ok (.iload_n 2, 1) := by decide +kernel
theorem dM_isRegister_13 : decode prog_11_method_12_code 13 = .ok (.aload_n 0, 1) := by decide +kernel
theorem dM_isRegister_14 : decode prog_11_method_12_code 14 = .ok (.getfield 19, 3) := by decide +kernel
theorem dM_isRegister_17 : decode prog_11_method_12_code 17 = .ok (.iload_n 1, 1) := by decide +kernel
theorem dM_isRegister_18 : decode prog_11_method_12_code 18 = .ok (.iaload, 1) := by decide +kernel
theorem dM_isRegister_19 : decode prog_11_method_12_code 19 = .ok (.if_icmp .ge (7), 3) := by decide +kernel
theorem dM_isRegister_22 : decode prog_11_method_12_code 22 = .ok (.iconst 1, 1) := by decide +kernel
theorem dM_isRegister_23 : decode prog_11_method_12_code 23 = .ok (.goto (4), 3) := by decide +kernel
theorem dM_isRegister_26 : decode prog_11_method_12_code 26 = .ok (.iconst 0, 1) := by decide +kernel
theorem dM_isRegister_27 : decode prog_11_method_12_code 27 = .ok (.ireturn, 1) := by decide +kernel
theorem dM_hold_0 : decode prog_11_method_13_code 0 = .ok (.aload_n 0, 1) := by decide +kernel
theorem dM_hold_1 : decode prog_11_method_13_code 1 = .ok (.iload_n 1, 1) := by decide +kernel
theorem dM_hold_2 : decode prog_11_method_13_code 2 = .ok (.iload_n 2, 1) := by decide +kernel
theorem dM_hold_3 : decode prog_11_method_13_code 3 = .ok (.invokevirtual 70, 3) := by decide +kernel
theorem dM_hold_6 : decode prog_11_method_13_code 6 = .ok (.istore 5, 2) := by decide +kernel
theorem dM_hold_8 : decode prog_11_method_13_code 8 = .ok (.aload_n 0, 1) := by decide +kernel
theorem dM_hold_9 : decode prog_11_method_13_code 9 = .ok (.aload_n 0, 1) := by decide +kernel
theorem dM_hold_10 : decode prog_11_method_13_code 10 = .ok (.iload 5, 2) := by decide +kernel
theorem dM_hold_12 : decode prog_11_method_13_code 12 = .ok (.iload_n 3, 1) := by decide +kernel
theorem dM_hold_13 : decode prog_11_method_13_code 13 = .ok (.invokevirtual 77, 3) := by decide +kernel
theorem dM_hold_16 : decode prog_11_method_13_code 16 = .ok (.ifCond .ne (7), 3) := by decide +kernel
theorem dM_hold_19 : decode prog_11_method_13_code 19 = .ok (.iconst 1, 1) := by decide +kernel
theorem dM_hold_20 : decode prog_11_method_13_code 20 = .ok (.goto (19), 3) := by decide +kernel
theorem dM_hold_23 : decode prog_11_method_13_code 23 = .ok (.iload 4, 2) := by decide +kernel
theorem dM_hold_25 : decode prog_11_method_13_code 25 = .ok (.ifCond .lt (9), 3) := by decide +kernel
theorem dM_hold_28 : decode prog_11_method_13_code 28 = .ok (.iload 4, 2) := by decide +kernel
theorem dM_hold_30 : decode prog_11_method_13_code 30 = .ok (.iconst 2, 1) := by decide +kernel
theorem dM_hold_31 : decode prog_11_method_13_code 31 = .ok (.if_icmp .le (7), 3) := by decide +kernel
theorem dM_hold_34 : decode prog_11_method_13_code 34 = .ok (.iconst 2, 1) := by decide +kernel
theorem dM_hold_35 : decode prog_11_method_13_code 35 = .ok (.goto (4), 3) := by decide +kernel
theorem dM_hold_38 : decode prog_11_method_13_code 38 = .ok (.iconst 0, 1) := by decide +kernel
theorem dM_hold_39 : decode prog_11_method_13_code 39 = .ok (.putfield 49, 3) := by decide +kernel
theorem dM_hold_42 : decode prog_11_method_13_code 42 = .ok (.aload_n 0, 1) := by decide +kernel
theorem dM_hold_43 : decode prog_11_method_13_code 43 = .ok (.getfield 49, 3) := by decide +kernel
theorem dM_hold_46 : decode prog_11_method_13_code 46 = .ok (.ifCond .ne (21), 3) := by decide +kernel
theorem dM_hold_49 : decode prog_11_method_13_code 49 = .ok (.aload_n 0, 1) := by decide +kernel
theorem dM_hold_50 : decode prog_11_method_13_code 50 = .ok (.getfield 22, 3) := by decide +kernel
theorem dM_hold_53 : decode prog_11_method_13_code 53 = .ok (.bipush (40), 2) := by decide +kernel
theorem dM_hold_55 : decode prog_11_method_13_code 55 = .ok (.iload 5, 2) := by decide +kernel
theorem dM_hold_57 : decode prog_11_method_13_code 57 = .ok (.imul, 1) := by decide +kernel
theorem dM_hold_58 : decode prog_11_method_13_code 58 = .ok (.iload_n 3, 1) := by decide +kernel
theorem dM_hold_59 : decode prog_11_method_13_code 59 = .ok (.iadd, 1) := by decide +kernel
theorem dM_hold_60 : decode prog_11_method_13_code 60 = .ok (.iload 4, 2) := by decide +kernel
theorem dM_hold_62 : decode prog_11_method_13_code 62 = .ok (.iastore, 1) := by decide +kernel
theorem dM_hold_63 : decode prog_11_method_13_code 63 = .ok (.aload_n 0, 1) := by decide +kernel
theorem dM_hold_64 : decode prog_11_method_13_code 64 = .ok (.invokevirtual 67, 3) := by decide +kernel
theorem dM_hold_67 : decode prog_11_method_13_code 67 = .ok (.return_, 1) := by decide +kernel
theorem dM_held_0 : decode prog_11_method_14_code 0 = .ok (.aload_n 0, 1) := by decide +kernel
theorem dM_held_1 : decode prog_11_method_14_code 1 = .ok (.iload_n 1, 1) := by decide +kernel
theorem dM_held_2 : decode prog_11_method_14_code 2 = .ok (.iload_n 2, 1) := by decide +kernel
theorem dM_held_3 : decode prog_11_method_14_code 3 = .ok (.invokevirtual 70, 3) := by decide +kernel
theorem dM_held_6 : decode prog_11_method_14_code 6 = .ok (.istore 4, 2) := by decide +kernel
theorem dM_held_8 : decode prog_11_method_14_code 8 = .ok (.aload_n 0, 1) := by decide +kernel
theorem dM_held_9 : decode prog_11_method_14_code 9 = .ok (.aload_n 0, 1) := by decide +kernel
theorem dM_held_10 : decode prog_11_method_14_code 10 = .ok (.iload 4, 2) := by decide +kernel
theorem dM_held_12 : decode prog_11_method_14_code 12 = .ok (.iload_n 3, 1) := by decide +kernel
theorem dM_held_13 : decode prog_11_method_14_code 13 = .ok (.invokevirtual 77, 3) := by decide +kernel
theorem dM_held_16 : decode prog_11_method_14_code 16 = .ok (.ifCond .eq (7), 3) := by decide +kernel
theorem dM_held_19 : decode prog_11_method_14_code 19 = .ok (.iconst 0, 1) := by decide +kernel
theorem dM_held_20 : decode prog_11_method_14_code 20 = .ok (.goto (4), 3) := by decide +kernel
theorem dM_held_23 : decode prog_11_method_14_code 23 = .ok (.iconst 1, 1) := by decide +kernel
theorem dM_held_24 : decode prog_11_method_14_code 24 = .ok (.putfield 49, 3) := by decide +kernel
theorem dM_held_27 : decode prog_11_method_14_code 27 = .ok (.aload_n 0, 1) := by decide +kernel
theorem dM_held_28 : decode prog_11_method_14_code 28 = .ok (.getfield 49, 3) := by decide +kernel
theorem dM_held_31 : decode prog_11_method_14_code 31 = .ok (.ifCond .ne (18), 3) := by decide +kernel
theorem dM_held_34 : decode prog_11_method_14_code 34 = .ok (.aload_n 0, 1) := by decide +kernel
theorem dM_held_35 : decode prog_11_method_14_code 35 = .ok (.getfield 22, 3) := by decide +kernel
theorem dM_held_38 : decode prog_11_method_14_code 38 = .ok (.bipush (40), 2) := by decide +kernel
theorem dM_held_40 : decode prog_11_method_14_code 40 = .ok (.iload 4, 2) := by decide +kernel
theorem dM_held_42 : decode prog_11_method_14_code 42 = .ok (.imul, 1) := by decide +kernel
theorem dM_held_43 : decode prog_11_method_14_code 43 = .ok (.iload_n 3, 1) := by decide +kernel
theorem dM_held_44 : decode prog_11_method_14_code 44 = .ok (.iadd, 1) := by decide +kernel
theorem dM_held_45 : decode prog_11_method_14_code 45 = .ok (.iaload, 1) := by decide +kernel
theorem dM_held_46 : decode prog_11_method_14_code 46 = .ok (.goto (4), 3) := by decide +kernel
theorem dM_held_49 : decode prog_11_method_14_code 49 = .ok (.iconst 0, 1) := by decide +kernel
theorem dM_held_50 : decode prog_11_method_14_code 50 = .ok (.ireturn, 1) := by decide +kernel
theorem dM_registers_0 : decode prog_11_method_15_code 0 = .ok (.aload_n 0, 1) := by decide +kernel
theorem dM_registers_1 : decode prog_11_method_15_code 1 = .ok (.iload_n 1, 1) := by decide +kernel
theorem dM_registers_2 : decode prog_11_method_15_code 2 = .ok (.iload_n 2, 1) := by decide +kernel
theorem dM_registers_3 : decode prog_11_method_15_code 3 = .ok (.invokevirtual 70, 3) := by decide +kernel
theorem dM_registers_6 : decode prog_11_method_15_code 6 = .ok (.istore_n 3, 1) := by decide +kernel
theorem dM_registers_7 : decode prog_11_method_15_code 7 = .ok (.aload_n 0, 1) := by decide +kernel
theorem dM_registers_8 : decode prog_11_method_15_code 8 = .ok (.aload_n 0, 1) := by decide +kernel
theorem dM_registers_9 : decode prog_11_method_15_code 9 = .ok (.iload_n 3, 1) := by decide +kernel
theorem dM_registers_10 : decode prog_11_method_15_code 10 = .ok (.invokevirtual 74, 3) := by decide +kernel
theorem dM_registers_13 : decode prog_11_method_15_code 13 = .ok (.ifCond .eq (7), 3) := by decide +kernel
theorem dM_registers_16 : decode prog_11_method_15_code 16 = .ok (.iconst 0, 1) := by decide +kernel
theorem dM_registers_17 : decode prog_11_method_15_code 17 = .ok (.goto (4), 3) := by decide +kernel
theorem dM_registers_20 : decode prog_11_method_15_code 20 = .ok (.iconst 1, 1) := by decide +kernel
theorem dM_registers_21 : decode prog_11_method_15_code 21 = .ok (.putfield 49, 3) := by decide +kernel
theorem dM_registers_24 : decode prog_11_method_15_code 24 = .ok (.aload_n 0, 1) := by decide +kernel
theorem dM_registers_25 : decode prog_11_method_15_code 25 = .ok (.getfield 49, 3) := by decide +kernel
theorem dM_registers_28 : decode prog_11_method_15_code 28 = .ok (.ifCond .ne (12), 3) := by decide +kernel
theorem dM_registers_31 : decode prog_11_method_15_code 31 = .ok (.aload_n 0, 1) := by decide +kernel
theorem dM_registers_32 : decode prog_11_method_15_code 32 = .ok (.getfield 19, 3) := by decide +kernel
theorem dM_registers_35 : decode prog_11_method_15_code 35 = .ok (.iload_n 3, 1) := by decide +kernel
theorem dM_registers_36 : decode prog_11_method_15_code 36 = .ok (.iaload, 1) := by decide +kernel
theorem dM_registers_37 : decode prog_11_method_15_code 37 = .ok (.goto (4), 3) := by decide +kernel
theorem dM_registers_40 : decode prog_11_method_15_code 40 = .ok (.iconst 0, 1) := by decide +kernel
theorem dM_registers_41 : decode prog_11_method_15_code 41 = .ok (.ireturn, 1) := by decide +kernel
theorem dM_gates_0 : decode prog_11_method_16_code 0 = .ok (.aload_n 0, 1) := by decide +kernel
theorem dM_gates_1 : decode prog_11_method_16_code 1 = .ok (.iconst 0, 1) := by decide +kernel
theorem dM_gates_2 : decode prog_11_method_16_code 2 = .ok (.putfield 49, 3) := by decide +kernel
theorem dM_gates_5 : decode prog_11_method_16_code 5 = .ok (.aload_n 0, 1) := by decide +kernel
theorem dM_gates_6 : decode prog_11_method_16_code 6 = .ok (.getfield 53, 3) := by decide +kernel
theorem dM_gates_9 : decode prog_11_method_16_code 9 = .ok (.ireturn, 1) := by decide +kernel
theorem dM_measure_0 : decode prog_11_method_17_code 0 = .ok (.iconst 1, 1) := by decide +kernel
theorem dM_measure_1 : decode prog_11_method_17_code 1 = .ok (.istore_n 1, 1) := by decide +kernel
theorem dM_measure_2 : decode prog_11_method_17_code 2 = .ok (.iload_n 1, 1) := by decide +kernel
theorem dM_measure_3 : decode prog_11_method_17_code 3 = .ok (.aload_n 0, 1) := by decide +kernel
theorem dM_measure_4 : decode prog_11_method_17_code 4 = .ok (.getfield 53, 3) := by decide +kernel
theorem dM_measure_7 : decode prog_11_method_17_code 7 = .ok (.if_icmp .gt (47), 3) := by decide +kernel
theorem dM_measure_10 : decode prog_11_method_17_code 10 = .ok (.iconst 1, 1) := by decide +kernel
theorem dM_measure_11 : decode prog_11_method_17_code 11 = .ok (.istore_n 2, 1) := by decide +kernel
theorem dM_measure_12 : decode prog_11_method_17_code 12 = .ok (.iload_n 2, 1) := by decide +kernel
theorem dM_measure_13 : decode prog_11_method_17_code 13 = .ok (.aload_n 0, 1) := by decide +kernel
theorem dM_measure_14 : decode prog_11_method_17_code 14 = .ok (.getfield 53, 3) := by decide +kernel
theorem dM_measure_17 : decode prog_11_method_17_code 17 = .ok (.if_icmp .gt (31), 3) := by decide +kernel
theorem dM_measure_20 : decode prog_11_method_17_code 20 = .ok (.aload_n 0, 1) := by decide +kernel
theorem dM_measure_21 : decode prog_11_method_17_code 21 = .ok (.getfield 43, 3) := by decide +kernel
theorem dM_measure_24 : decode prog_11_method_17_code 24 = .ok (.bipush (13), 2) := by decide +kernel
theorem dM_measure_26 : decode prog_11_method_17_code 26 = .ok (.iload_n 1, 1) := by decide +kernel
theorem dM_measure_27 : decode prog_11_method_17_code 27 = .ok (.imul, 1) := by decide +kernel
theorem dM_measure_28 : decode prog_11_method_17_code 28 = .ok (.iload_n 2, 1) := by decide +kernel
theorem dM_measure_29 : decode prog_11_method_17_code 29 = .ok (.iadd, 1) := by decide +kernel
theorem dM_measure_30 : decode prog_11_method_17_code 30 = .ok (.iload_n 1, 1) := by decide +kernel
theorem dM_measure_31 : decode prog_11_method_17_code 31 = .ok (.iload_n 2, 1) := by decide +kernel
theorem dM_measure_32 : decode prog_11_method_17_code 32 = .ok (.if_icmp .ne (7), 3) := by decide +kernel
theorem dM_measure_35 : decode prog_11_method_17_code 35 = .ok (.iconst 0, 1) := by decide +kernel
theorem dM_measure_36 : decode prog_11_method_17_code 36 = .ok (.goto (5), 3) := by decide +kernel
theorem dM_measure_39 : decode prog_11_method_17_code 39 = .ok (.ldc 81, 2) := by decide +kernel
theorem dM_measure_41 : decode prog_11_method_17_code 41 = .ok (.iastore, 1) := by decide +kernel
theorem dM_measure_42 : decode prog_11_method_17_code 42 = .ok (.iinc 2 (1), 3) := by decide +kernel
theorem dM_measure_45 : decode prog_11_method_17_code 45 = .ok (.goto (-33), 3) := by decide +kernel
theorem dM_measure_48 : decode prog_11_method_17_code 48 = .ok (.iinc 1 (1), 3) := by decide +kernel
theorem dM_measure_51 : decode prog_11_method_17_code 51 = .ok (.goto (-49), 3) := by decide +kernel
theorem dM_measure_54 : decode prog_11_method_17_code 54 = .ok (.iconst 0, 1) := by decide +kernel
theorem dM_measure_55 : decode prog_11_method_17_code 55 = .ok (.istore_n 1, 1) := by decide +kernel
theorem dM_measure_56 : decode prog_11_method_17_code 56 = .ok (.iload_n 1, 1) := by decide +kernel
theorem dM_measure_57 : decode prog_11_method_17_code 57 = .ok (.bipush (24), 2) := by decide +kernel
theorem dM_measure_59 : decode prog_11_method_17_code 59 = .ok (.if_icmp .ge (92), 3) := by decide +kernel
theorem dM_measure_62 : decode prog_11_method_17_code 62 = .ok (.iload_n 1, 1) := by decide +kernel
theorem dM_measure_63 : decode prog_11_method_17_code 63 = .ok (.invokestatic 82, 3) := by decide +kernel
theorem dM_measure_66 : decode prog_11_method_17_code 66 = .ok (.istore_n 2, 1) := by decide +kernel
theorem dM_measure_67 : decode prog_11_method_17_code 67 = .ok (.aload_n 0, 1) := by decide +kernel
theorem dM_measure_68 : decode prog_11_method_17_code 68 = .ok (.getfield 16, 3) := by decide +kernel
theorem dM_measure_71 : decode prog_11_method_17_code 71 = .ok (.iload_n 1, 1) := by decide +kernel
theorem dM_measure_72 : decode prog_11_method_17_code 72 = .ok (.iaload, 1) := by decide +kernel
theorem dM_measure_73 : decode prog_11_method_17_code 73 = .ok (.istore_n 3, 1) := by decide +kernel
theorem dM_measure_74 : decode prog_11_method_17_code 74 = .ok (.iload_n 3, 1) := by decide +kernel
theorem dM_measure_75 : decode prog_11_method_17_code 75 = .ok (.ifCond .le (70), 3) := by decide +kernel
theorem dM_measure_78 : decode prog_11_method_17_code 78 = .ok (.iload_n 2, 1) := by decide +kernel
theorem dM_measure_79 : decode prog_11_method_17_code 79 = .ok (.iload_n 3, 1) := by decide +kernel
theorem dM_measure_80 : decode prog_11_method_17_code 80 = .ok (.if_icmp .eq (65), 3) := by decide +kernel
theorem dM_measure_83 : decode prog_11_method_17_code 83 = .ok (.sipush (1024), 3) := by decide +kernel
theorem dM_measure_86 : decode prog_11_method_17_code 86 = .ok (.aload_n 0, 1) := by decide +kernel
theorem dM_measure_87 : decode prog_11_method_17_code 87 = .ok (.getfield 19, 3) := by decide +kernel
theorem dM_measure_90 : decode prog_11_method_17_code 90 = .ok (.iload_n 1, 1) := by decide +kernel
theorem dM_measure_91 : decode prog_11_method_17_code 91 = .ok (.iaload, 1) := by decide +kernel
theorem dM_measure_92 : decode prog_11_method_17_code 92 = .ok (.imul, 1) := by decide +kernel
theorem dM_measure_93 : decode prog_11_method_17_code 93 = .ok (.aload_n 0, 1) := by decide +kernel
theorem dM_measure_94 : decode prog_11_method_17_code 94 = .ok (.getfield 13, 3) := by decide +kernel
theorem dM_measure_97 : decode prog_11_method_17_code 97 = .ok (.iload_n 3, 1) := by decide +kernel
theorem dM_measure_98 : decode prog_11_method_17_code 98 = .ok (.iaload, 1) := by decide +kernel
theorem dM_measure_99 : decode prog_11_method_17_code 99 = .ok (.isub, 1) := by decide +kernel
theorem dM_measure_100 : decode prog_11_method_17_code 100 = .ok (.istore 4, 2) := by decide +kernel
theorem dM_measure_102 : decode prog_11_method_17_code 102 = .ok (.aload_n 0, 1) := by decide +kernel
theorem dM_measure_103 : decode prog_11_method_17_code 103 = .ok (.getfield 43, 3) := by decide +kernel
theorem dM_measure_106 : decode prog_11_method_17_code 106 = .ok (.bipush (13), 2) := by decide +kernel
theorem dM_measure_108 : decode prog_11_method_17_code 108 = .ok (.iload_n 3, 1) := by decide +kernel
theorem dM_measure_109 : decode prog_11_method_17_code 109 = .ok (.imul, 1) := by decide +kernel
theorem dM_measure_110 : decode prog_11_method_17_code 110 = .ok (.iload_n 2, 1) := by decide +kernel
theorem dM_measure_111 : decode prog_11_method_17_code 111 = .ok (.iadd, 1) := by decide +kernel
theorem dM_measure_112 : decode prog_11_method_17_code 112 = .ok (.iload 4, 2) := by decide +kernel
theorem dM_measure_114 : decode prog_11_method_17_code 114 = .ok (.aload_n 0, 1) := by decide +kernel
theorem dM_measure_115 : decode prog_11_method_17_code 115 = .ok (.getfield 43, 3) := by decide +kernel
theorem dM_measure_118 : decode prog_11_method_17_code 118 = .ok (.bipush (13), 2) := by decide +kernel
theorem dM_measure_120 : decode prog_11_method_17_code 120 = .ok (.iload_n 3, 1) := by decide +kernel
theorem dM_measure_121 : decode prog_11_method_17_code 121 = .ok (.imul, 1) := by decide +kernel
theorem dM_measure_122 : decode prog_11_method_17_code 122 = .ok (.iload_n 2, 1) := by decide +kernel
theorem dM_measure_123 : decode prog_11_method_17_code 123 = .ok (.iadd, 1) := by decide +kernel
theorem dM_measure_124 : decode prog_11_method_17_code 124 = .ok (.iaload, 1) := by decide +kernel
theorem dM_measure_125 : decode prog_11_method_17_code 125 = .ok (.if_icmp .ge (8), 3) := by decide +kernel
theorem dM_measure_128 : decode prog_11_method_17_code 128 = .ok (.iload 4, 2) := by decide +kernel
theorem dM_measure_130 : decode prog_11_method_17_code 130 = .ok (.goto (14), 3) := by decide +kernel
theorem dM_measure_133 : decode prog_11_method_17_code 133 = .ok (.aload_n 0, 1) := by decide +kernel
theorem dM_measure_134 : decode prog_11_method_17_code 134 = .ok (.getfield 43, 3) := by decide +kernel
theorem dM_measure_137 : decode prog_11_method_17_code 137 = .ok (.bipush (13), 2) := by decide +kernel
theorem dM_measure_139 : decode prog_11_method_17_code 139 = .ok (.iload_n 3, 1) := by decide +kernel
theorem dM_measure_140 : decode prog_11_method_17_code 140 = .ok (.imul, 1) := by decide +kernel
theorem dM_measure_141 : decode prog_11_method_17_code 141 = .ok (.iload_n 2, 1) := by decide +kernel
theorem dM_measure_142 : decode prog_11_method_17_code 142 = .ok (.iadd, 1) := by decide +kernel
theorem dM_measure_143 : decode prog_11_method_17_code 143 = .ok (.iaload, 1) := by decide +kernel
theorem dM_measure_144 : decode prog_11_method_17_code 144 = .ok (.iastore, 1) := by decide +kernel
theorem dM_measure_145 : decode prog_11_method_17_code 145 = .ok (.iinc 1 (1), 3) := by decide +kernel
theorem dM_measure_148 : decode prog_11_method_17_code 148 = .ok (.goto (-92), 3) := by decide +kernel
theorem dM_measure_151 : decode prog_11_method_17_code 151 = .ok (.iconst 1, 1) := by decide +kernel
theorem dM_measure_152 : decode prog_11_method_17_code 152 = .ok (.istore_n 1, 1) := by decide +kernel
theorem dM_measure_153 : decode prog_11_method_17_code 153 = .ok (.iload_n 1, 1) := by decide +kernel
theorem dM_measure_154 : decode prog_11_method_17_code 154 = .ok (.aload_n 0, 1) := by decide +kernel
theorem dM_measure_155 : decode prog_11_method_17_code 155 = .ok (.getfield 53, 3) := by decide +kernel
theorem dM_measure_158 : decode prog_11_method_17_code 158 = .ok (.if_icmp .gt (116), 3) := by decide +kernel
theorem dM_measure_161 : decode prog_11_method_17_code 161 = .ok (.iconst 1, 1) := by decide +kernel
theorem dM_measure_162 : decode prog_11_method_17_code 162 = .ok (.istore_n 2, 1) := by decide +kernel
theorem dM_measure_163 : decode prog_11_method_17_code 163 = .ok (.iload_n 2, 1) := by decide +kernel
theorem dM_measure_164 : decode prog_11_method_17_code 164 = .ok (.aload_n 0, 1) := by decide +kernel
theorem dM_measure_165 : decode prog_11_method_17_code 165 = .ok (.getfield 53, 3) := by decide +kernel
theorem dM_measure_168 : decode prog_11_method_17_code 168 = .ok (.if_icmp .gt (100), 3) := by decide +kernel
theorem dM_measure_171 : decode prog_11_method_17_code 171 = .ok (.iconst 1, 1) := by decide +kernel
theorem dM_measure_172 : decode prog_11_method_17_code 172 = .ok (.istore_n 3, 1) := by decide +kernel
theorem dM_measure_173 : decode prog_11_method_17_code 173 = .ok (.iload_n 3, 1) := by decide +kernel
theorem dM_measure_174 : decode prog_11_method_17_code 174 = .ok (.aload_n 0, 1) := by decide +kernel
theorem dM_measure_175 : decode prog_11_method_17_code 175 = .ok (.getfield 53, 3) := by decide +kernel
theorem dM_measure_178 : decode prog_11_method_17_code 178 = .ok (.if_icmp .gt (84), 3) := by decide +kernel
theorem dM_measure_181 : decode prog_11_method_17_code 181 = .ok (.aload_n 0, 1) := by decide +kernel
theorem dM_measure_182 : decode prog_11_method_17_code 182 = .ok (.getfield 43, 3) := by decide +kernel
theorem dM_measure_185 : decode prog_11_method_17_code 185 = .ok (.bipush (13), 2) := by decide +kernel
theorem dM_measure_187 : decode prog_11_method_17_code 187 = .ok (.iload_n 2, 1) := by decide +kernel
theorem dM_measure_188 : decode prog_11_method_17_code 188 = .ok (.imul, 1) := by decide +kernel
theorem dM_measure_189 : decode prog_11_method_17_code 189 = .ok (.iload_n 1, 1) := by decide +kernel
theorem dM_measure_190 : decode prog_11_method_17_code 190 = .ok (.iadd, 1) := by decide +kernel
theorem dM_measure_191 : decode prog_11_method_17_code 191 = .ok (.iaload, 1) := by decide +kernel
theorem dM_measure_192 : decode prog_11_method_17_code 192 = .ok (.istore 4, 2) := by decide +kernel
theorem dM_measure_194 : decode prog_11_method_17_code 194 = .ok (.aload_n 0, 1) := by decide +kernel
theorem dM_measure_195 : decode prog_11_method_17_code 195 = .ok (.getfield 43, 3) := by decide +kernel
theorem dM_measure_198 : decode prog_11_method_17_code 198 = .ok (.bipush (13), 2) := by decide +kernel
theorem dM_measure_200 : decode prog_11_method_17_code 200 = .ok (.iload_n 1, 1) := by decide +kernel
theorem dM_measure_201 : decode prog_11_method_17_code 201 = .ok (.imul, 1) := by decide +kernel
theorem dM_measure_202 : decode prog_11_method_17_code 202 = .ok (.iload_n 3, 1) := by decide +kernel
theorem dM_measure_203 : decode prog_11_method_17_code 203 = .ok (.iadd, 1) := by decide +kernel
theorem dM_measure_204 : decode prog_11_method_17_code 204 = .ok (.iaload, 1) := by decide +kernel
theorem dM_measure_205 : decode prog_11_method_17_code 205 = .ok (.istore 5, 2) := by decide +kernel
theorem dM_measure_207 : decode prog_11_method_17_code 207 = .ok (.iload 4, 2) := by decide +kernel
theorem dM_measure_209 : decode prog_11_method_17_code 209 = .ok (.ldc 81, 2) := by decide +kernel
theorem dM_measure_211 : decode prog_11_method_17_code 211 = .ok (.if_icmp .ge (45), 3) := by decide +kernel
theorem dM_measure_214 : decode prog_11_method_17_code 214 = .ok (.iload 5, 2) := by decide +kernel
theorem dM_measure_216 : decode prog_11_method_17_code 216 = .ok (.ldc 81, 2) := by decide +kernel
theorem dM_measure_218 : decode prog_11_method_17_code 218 = .ok (.if_icmp .ge (38), 3) := by decide +kernel
theorem dM_measure_221 : decode prog_11_method_17_code 221 = .ok (.iload 4, 2) := by decide +kernel
theorem dM_measure_223 : decode prog_11_method_17_code 223 = .ok (.iload 5, 2) := by decide +kernel
theorem dM_measure_225 : decode prog_11_method_17_code 225 = .ok (.iadd, 1) := by decide +kernel
theorem dM_measure_226 : decode prog_11_method_17_code 226 = .ok (.aload_n 0, 1) := by decide +kernel
theorem dM_measure_227 : decode prog_11_method_17_code 227 = .ok (.getfield 43, 3) := by decide +kernel
theorem dM_measure_230 : decode prog_11_method_17_code 230 = .ok (.bipush (13), 2) := by decide +kernel
theorem dM_measure_232 : decode prog_11_method_17_code 232 = .ok (.iload_n 2, 1) := by decide +kernel
theorem dM_measure_233 : decode prog_11_method_17_code 233 = .ok (.imul, 1) := by decide +kernel
theorem dM_measure_234 : decode prog_11_method_17_code 234 = .ok (.iload_n 3, 1) := by decide +kernel
theorem dM_measure_235 : decode prog_11_method_17_code 235 = .ok (.iadd, 1) := by decide +kernel
theorem dM_measure_236 : decode prog_11_method_17_code 236 = .ok (.iaload, 1) := by decide +kernel
theorem dM_measure_237 : decode prog_11_method_17_code 237 = .ok (.if_icmp .ge (19), 3) := by decide +kernel
theorem dM_measure_240 : decode prog_11_method_17_code 240 = .ok (.aload_n 0, 1) := by decide +kernel
theorem dM_measure_241 : decode prog_11_method_17_code 241 = .ok (.getfield 43, 3) := by decide +kernel
theorem dM_measure_244 : decode prog_11_method_17_code 244 = .ok (.bipush (13), 2) := by decide +kernel
theorem dM_measure_246 : decode prog_11_method_17_code 246 = .ok (.iload_n 2, 1) := by decide +kernel
theorem dM_measure_247 : decode prog_11_method_17_code 247 = .ok (.imul, 1) := by decide +kernel
theorem dM_measure_248 : decode prog_11_method_17_code 248 = .ok (.iload_n 3, 1) := by decide +kernel
theorem dM_measure_249 : decode prog_11_method_17_code 249 = .ok (.iadd, 1) := by decide +kernel
theorem dM_measure_250 : decode prog_11_method_17_code 250 = .ok (.iload 4, 2) := by decide +kernel
theorem dM_measure_252 : decode prog_11_method_17_code 252 = .ok (.iload 5, 2) := by decide +kernel
theorem dM_measure_254 : decode prog_11_method_17_code 254 = .ok (.iadd, 1) := by decide +kernel
theorem dM_measure_255 : decode prog_11_method_17_code 255 = .ok (.iastore, 1) := by decide +kernel
theorem dM_measure_256 : decode prog_11_method_17_code 256 = .ok (.iinc 3 (1), 3) := by decide +kernel
theorem dM_measure_259 : decode prog_11_method_17_code 259 = .ok (.goto (-86), 3) := by decide +kernel
theorem dM_measure_262 : decode prog_11_method_17_code 262 = .ok (.iinc 2 (1), 3) := by decide +kernel
theorem dM_measure_265 : decode prog_11_method_17_code 265 = .ok (.goto (-102), 3) := by decide +kernel
theorem dM_measure_268 : decode prog_11_method_17_code 268 = .ok (.iinc 1 (1), 3) := by decide +kernel
theorem dM_measure_271 : decode prog_11_method_17_code 271 = .ok (.goto (-118), 3) := by decide +kernel
theorem dM_measure_274 : decode prog_11_method_17_code 274 = .ok (.return_, 1) := by decide +kernel
theorem dM_weightOf_0 : decode prog_11_method_18_code 0 = .ok (.aload_n 0, 1) := by decide +kernel
theorem dM_weightOf_1 : decode prog_11_method_18_code 1 = .ok (.getfield 43, 3) := by decide +kernel
theorem dM_weightOf_4 : decode prog_11_method_18_code 4 = .ok (.bipush (13), 2) := by decide +kernel
theorem dM_weightOf_6 : decode prog_11_method_18_code 6 = .ok (.iload_n 1, 1) := by decide +kernel
theorem dM_weightOf_7 : decode prog_11_method_18_code 7 = .ok (.imul, 1) := by decide +kernel
theorem dM_weightOf_8 : decode prog_11_method_18_code 8 = .ok (.iload_n 2, 1) := by decide +kernel
theorem dM_weightOf_9 : decode prog_11_method_18_code 9 = .ok (.iadd, 1) := by decide +kernel
theorem dM_weightOf_10 : decode prog_11_method_18_code 10 = .ok (.iaload, 1) := by decide +kernel
theorem dM_weightOf_11 : decode prog_11_method_18_code 11 = .ok (.istore_n 3, 1) := by decide +kernel
theorem dM_weightOf_12 : decode prog_11_method_18_code 12 = .ok (.iload_n 3, 1) := by decide +kernel
theorem dM_weightOf_13 : decode prog_11_method_18_code 13 = .ok (.ldc 81, 2) := by decide +kernel
theorem dM_weightOf_15 : decode prog_11_method_18_code 15 = .ok (.if_icmp .ne (9), 3) := by decide +kernel
theorem dM_weightOf_18 : decode prog_11_method_18_code 18 = .ok (.sipush (1000), 3) := by decide +kernel
theorem dM_weightOf_21 : decode prog_11_method_18_code 21 = .ok (.goto (11), 3) := by decide +kernel
theorem dM_weightOf_24 : decode prog_11_method_18_code 24 = .ok (.iload_n 3, 1) := by decide +kernel
theorem dM_weightOf_25 : decode prog_11_method_18_code 25 = .ok (.sipush (1023), 3) := by decide +kernel
theorem dM_weightOf_28 : decode prog_11_method_18_code 28 = .ok (.iadd, 1) := by decide +kernel
theorem dM_weightOf_29 : decode prog_11_method_18_code 29 = .ok (.bipush (10), 2) := by decide +kernel
theorem dM_weightOf_31 : decode prog_11_method_18_code 31 = .ok (.ishr, 1) := by decide +kernel
theorem dM_weightOf_32 : decode prog_11_method_18_code 32 = .ok (.ireturn, 1) := by decide +kernel
theorem dM_delayOf_0 : decode prog_11_method_19_code 0 = .ok (.sipush (1024), 3) := by decide +kernel
theorem dM_delayOf_3 : decode prog_11_method_19_code 3 = .ok (.aload_n 0, 1) := by decide +kernel
theorem dM_delayOf_4 : decode prog_11_method_19_code 4 = .ok (.iload_n 1, 1) := by decide +kernel
theorem dM_delayOf_5 : decode prog_11_method_19_code 5 = .ok (.iload_n 2, 1) := by decide +kernel
theorem dM_delayOf_6 : decode prog_11_method_19_code 6 = .ok (.invokevirtual 85, 3) := by decide +kernel
theorem dM_delayOf_9 : decode prog_11_method_19_code 9 = .ok (.imul, 1) := by decide +kernel
theorem dM_delayOf_10 : decode prog_11_method_19_code 10 = .ok (.aload_n 0, 1) := by decide +kernel
theorem dM_delayOf_11 : decode prog_11_method_19_code 11 = .ok (.getfield 43, 3) := by decide +kernel
theorem dM_delayOf_14 : decode prog_11_method_19_code 14 = .ok (.bipush (13), 2) := by decide +kernel
theorem dM_delayOf_16 : decode prog_11_method_19_code 16 = .ok (.iload_n 1, 1) := by decide +kernel
theorem dM_delayOf_17 : decode prog_11_method_19_code 17 = .ok (.imul, 1) := by decide +kernel
theorem dM_delayOf_18 : decode prog_11_method_19_code 18 = .ok (.iload_n 2, 1) := by decide +kernel
theorem dM_delayOf_19 : decode prog_11_method_19_code 19 = .ok (.iadd, 1) := by decide +kernel
theorem dM_delayOf_20 : decode prog_11_method_19_code 20 = .ok (.iaload, 1) := by decide +kernel
theorem dM_delayOf_21 : decode prog_11_method_19_code 21 = .ok (.isub, 1) := by decide +kernel
theorem dM_delayOf_22 : decode prog_11_method_19_code 22 = .ok (.aload_n 0, 1) := by decide +kernel
theorem dM_delayOf_23 : decode prog_11_method_19_code 23 = .ok (.getfield 13, 3) := by decide +kernel
theorem dM_delayOf_26 : decode prog_11_method_19_code 26 = .ok (.iload_n 2, 1) := by decide +kernel
theorem dM_delayOf_27 : decode prog_11_method_19_code 27 = .ok (.iaload, 1) := by decide +kernel
theorem dM_delayOf_28 : decode prog_11_method_19_code 28 = .ok (.iadd, 1) := by decide +kernel
theorem dM_delayOf_29 : decode prog_11_method_19_code 29 = .ok (.ireturn, 1) := by decide +kernel
theorem dM_looped_0 : decode prog_11_method_20_code 0 = .ok (.iconst 1, 1) := by decide +kernel
theorem dM_looped_1 : decode prog_11_method_20_code 1 = .ok (.istore_n 1, 1) := by decide +kernel
theorem dM_looped_2 : decode prog_11_method_20_code 2 = .ok (.iload_n 1, 1) := by decide +kernel
theorem dM_looped_3 : decode prog_11_method_20_code 3 = .ok (.aload_n 0, 1) := by decide +kernel
theorem dM_looped_4 : decode prog_11_method_20_code 4 = .ok (.getfield 53, 3) := by decide +kernel
theorem dM_looped_7 : decode prog_11_method_20_code 7 = .ok (.if_icmp .gt (16), 3) := by decide +kernel
theorem dM_looped_10 : decode prog_11_method_20_code 10 = .ok (.aload_n 0, 1) := by decide +kernel
theorem dM_looped_11 : decode prog_11_method_20_code 11 = .ok (.getfield 46, 3) := by decide +kernel
theorem dM_looped_14 : decode prog_11_method_20_code 14 = .ok (.iload_n 1, 1) := by decide +kernel
theorem dM_looped_15 : decode prog_11_method_20_code 15 = .ok (.iconst 0, 1) := by decide +kernel
theorem dM_looped_16 : decode prog_11_method_20_code 16 = .ok (.iastore, 1) := by decide +kernel
theorem dM_looped_17 : decode prog_11_method_20_code 17 = .ok (.iinc 1 (1), 3) := by decide +kernel
theorem dM_looped_20 : decode prog_11_method_20_code 20 = .ok (.goto (-18), 3) := by decide +kernel
theorem dM_looped_23 : decode prog_11_method_20_code 23 = .ok (.iconst 0, 1) := by decide +kernel
theorem dM_looped_24 : decode prog_11_method_20_code 24 = .ok (.istore_n 1, 1) := by decide +kernel
theorem dM_looped_25 : decode prog_11_method_20_code 25 = .ok (.iload_n 1, 1) := by decide +kernel
theorem dM_looped_26 : decode prog_11_method_20_code 26 = .ok (.aload_n 0, 1) := by decide +kernel
theorem dM_looped_27 : decode prog_11_method_20_code 27 = .ok (.getfield 53, 3) := by decide +kernel
theorem dM_looped_30 : decode prog_11_method_20_code 30 = .ok (.if_icmp .ge (121), 3) := by decide +kernel
theorem dM_looped_33 : decode prog_11_method_20_code 33 = .ok (.iconst 1, 1) := by decide +kernel
theorem dM_looped_34 : decode prog_11_method_20_code 34 = .ok (.istore_n 2, 1) := by decide +kernel
theorem dM_looped_35 : decode prog_11_method_20_code 35 = .ok (.iload_n 2, 1) := by decide +kernel
theorem dM_looped_36 : decode prog_11_method_20_code 36 = .ok (.aload_n 0, 1) := by decide +kernel
theorem dM_looped_37 : decode prog_11_method_20_code 37 = .ok (.getfield 53, 3) := by decide +kernel
theorem dM_looped_40 : decode prog_11_method_20_code 40 = .ok (.if_icmp .gt (105), 3) := by decide +kernel
theorem dM_looped_43 : decode prog_11_method_20_code 43 = .ok (.iconst 0, 1) := by decide +kernel
theorem dM_looped_44 : decode prog_11_method_20_code 44 = .ok (.istore_n 3, 1) := by decide +kernel
theorem dM_looped_45 : decode prog_11_method_20_code 45 = .ok (.iconst 0, 1) := by decide +kernel
theorem dM_looped_46 : decode prog_11_method_20_code 46 = .ok (.istore 4, 2) := by decide +kernel
theorem dM_looped_48 : decode prog_11_method_20_code 48 = .ok (.iload 4, 2) := by decide +kernel
theorem dM_looped_50 : decode prog_11_method_20_code 50 = .ok (.aload_n 0, 1) := by decide +kernel
theorem dM_looped_51 : decode prog_11_method_20_code 51 = .ok (.iload_n 2, 1) := by decide +kernel
theorem dM_looped_52 : decode prog_11_method_20_code 52 = .ok (.invokevirtual 63, 3) := by decide +kernel
theorem dM_looped_55 : decode prog_11_method_20_code 55 = .ok (.if_icmp .ge (64), 3) := by decide +kernel
theorem dM_looped_58 : decode prog_11_method_20_code 58 = .ok (.iconst 2, 1) := by decide +kernel
theorem dM_looped_59 : decode prog_11_method_20_code 59 = .ok (.iload_n 2, 1) := by decide +kernel
theorem dM_looped_60 : decode prog_11_method_20_code 60 = .ok (.imul, 1) := by decide +kernel
theorem dM_looped_61 : decode prog_11_method_20_code 61 = .ok (.iconst 2, 1) := by decide +kernel
theorem dM_looped_62 : decode prog_11_method_20_code 62 = .ok (.isub, 1) := by decide +kernel
theorem dM_looped_63 : decode prog_11_method_20_code 63 = .ok (.iload 4, 2) := by decide +kernel
theorem dM_looped_65 : decode prog_11_method_20_code 65 = .ok (.iadd, 1) := by decide +kernel
theorem dM_looped_66 : decode prog_11_method_20_code 66 = .ok (.istore 5, 2) := by decide +kernel
theorem dM_looped_68 : decode prog_11_method_20_code 68 = .ok (.iload_n 3, 1) := by decide +kernel
theorem dM_looped_69 : decode prog_11_method_20_code 69 = .ok (.ifCond .ne (38), 3) := by decide +kernel
theorem dM_looped_72 : decode prog_11_method_20_code 72 = .ok (.aload_n 0, 1) := by decide +kernel
theorem dM_looped_73 : decode prog_11_method_20_code 73 = .ok (.getfield 16, 3) := by decide +kernel
theorem dM_looped_76 : decode prog_11_method_20_code 76 = .ok (.iload 5, 2) := by decide +kernel
theorem dM_looped_78 : decode prog_11_method_20_code 78 = .ok (.iaload, 1) := by decide +kernel
theorem dM_looped_79 : decode prog_11_method_20_code 79 = .ok (.ifCond .le (32), 3) := by decide +kernel
theorem dM_looped_82 : decode prog_11_method_20_code 82 = .ok (.aload_n 0, 1) := by decide +kernel
theorem dM_looped_83 : decode prog_11_method_20_code 83 = .ok (.getfield 19, 3) := by decide +kernel
theorem dM_looped_86 : decode prog_11_method_20_code 86 = .ok (.iload 5, 2) := by decide +kernel
theorem dM_looped_88 : decode prog_11_method_20_code 88 = .ok (.iaload, 1) := by decide +kernel
theorem dM_looped_89 : decode prog_11_method_20_code 89 = .ok (.ifCond .ne (22), 3) := by decide +kernel
theorem dM_looped_92 : decode prog_11_method_20_code 92 = .ok (.aload_n 0, 1) := by decide +kernel
theorem dM_looped_93 : decode prog_11_method_20_code 93 = .ok (.getfield 46, 3) := by decide +kernel
theorem dM_looped_96 : decode prog_11_method_20_code 96 = .ok (.aload_n 0, 1) := by decide +kernel
theorem dM_looped_97 : decode prog_11_method_20_code 97 = .ok (.getfield 16, 3) := by decide +kernel
theorem dM_looped_100 : decode prog_11_method_20_code 100 = .ok (.iload 5, 2) := by decide +kernel
theorem dM_looped_102 : decode prog_11_method_20_code 102 = .ok (.iaload, 1) := by decide +kernel
theorem dM_looped_103 : decode prog_11_method_20_code 103 = .ok (.iaload, 1) := by decide +kernel
theorem dM_looped_104 : decode prog_11_method_20_code 104 = .ok (.ifCond .ne (7), 3) := by decide +kernel
theorem dM_looped_107 : decode prog_11_method_20_code 107 = .ok (.iconst 1, 1) := by decide +kernel
theorem dM_looped_108 : decode prog_11_method_20_code 108 = .ok (.goto (4), 3) := by decide +kernel
theorem dM_looped_111 : decode prog_11_method_20_code 111 = .ok (.iconst 0, 1) := by decide +kernel
theorem dM_looped_112 : decode prog_11_method_20_code 112 = .ok (.istore_n 3, 1) := by decide +kernel
theorem dM_looped_113 : decode prog_11_method_20_code 113 = .ok (.iinc 4 (1), 3) := by decide +kernel
theorem dM_looped_116 : decode prog_11_method_20_code 116 = .ok (.goto (-68), 3) := by decide +kernel
theorem dM_looped_119 : decode prog_11_method_20_code 119 = .ok (.aload_n 0, 1) := by decide +kernel
theorem dM_looped_120 : decode prog_11_method_20_code 120 = .ok (.getfield 46, 3) := by decide +kernel
theorem dM_looped_123 : decode prog_11_method_20_code 123 = .ok (.iload_n 2, 1) := by decide +kernel
theorem dM_looped_124 : decode prog_11_method_20_code 124 = .ok (.iload_n 3, 1) := by decide +kernel
theorem dM_looped_125 : decode prog_11_method_20_code 125 = .ok (.ifCond .eq (12), 3) := by decide +kernel
theorem dM_looped_128 : decode prog_11_method_20_code 128 = .ok (.aload_n 0, 1) := by decide +kernel
theorem dM_looped_129 : decode prog_11_method_20_code 129 = .ok (.getfield 46, 3) := by decide +kernel
theorem dM_looped_132 : decode prog_11_method_20_code 132 = .ok (.iload_n 2, 1) := by decide +kernel
theorem dM_looped_133 : decode prog_11_method_20_code 133 = .ok (.iaload, 1) := by decide +kernel
theorem dM_looped_134 : decode prog_11_method_20_code 134 = .ok (.goto (4), 3) := by decide +kernel
theorem dM_looped_137 : decode prog_11_method_20_code 137 = .ok (.iconst 1, 1) := by decide +kernel
theorem dM_looped_138 : decode prog_11_method_20_code 138 = .ok (.iastore, 1) := by decide +kernel
theorem dM_looped_139 : decode prog_11_method_20_code 139 = .ok (.iinc 2 (1), 3) := by decide +kernel
theorem dM_looped_142 : decode prog_11_method_20_code 142 = .ok (.goto (-107), 3) := by decide +kernel
theorem dM_looped_145 : decode prog_11_method_20_code 145 = .ok (.iinc 1 (1), 3) := by decide +kernel
theorem dM_looped_148 : decode prog_11_method_20_code 148 = .ok (.goto (-123), 3) := by decide +kernel
theorem dM_looped_151 : decode prog_11_method_20_code 151 = .ok (.iconst 0, 1) := by decide +kernel
theorem dM_looped_152 : decode prog_11_method_20_code 152 = .ok (.istore_n 1, 1) := by decide +kernel
theorem dM_looped_153 : decode prog_11_method_20_code 153 = .ok (.iconst 1, 1) := by decide +kernel
theorem dM_looped_154 : decode prog_11_method_20_code 154 = .ok (.istore_n 2, 1) := by decide +kernel
theorem dM_looped_155 : decode prog_11_method_20_code 155 = .ok (.iload_n 2, 1) := by decide +kernel
theorem dM_looped_156 : decode prog_11_method_20_code 156 = .ok (.aload_n 0, 1) := by decide +kernel
theorem dM_looped_157 : decode prog_11_method_20_code 157 = .ok (.getfield 53, 3) := by decide +kernel
theorem dM_looped_160 : decode prog_11_method_20_code 160 = .ok (.if_icmp .gt (28), 3) := by decide +kernel
theorem dM_looped_163 : decode prog_11_method_20_code 163 = .ok (.iload_n 1, 1) := by decide +kernel
theorem dM_looped_164 : decode prog_11_method_20_code 164 = .ok (.ifCond .ne (12), 3) := by decide +kernel
theorem dM_looped_167 : decode prog_11_method_20_code 167 = .ok (.aload_n 0, 1) := by decide +kernel
theorem dM_looped_168 : decode prog_11_method_20_code 168 = .ok (.getfield 46, 3) := by decide +kernel
theorem dM_looped_171 : decode prog_11_method_20_code 171 = .ok (.iload_n 2, 1) := by decide +kernel
theorem dM_looped_172 : decode prog_11_method_20_code 172 = .ok (.iaload, 1) := by decide +kernel
theorem dM_looped_173 : decode prog_11_method_20_code 173 = .ok (.ifCond .ne (7), 3) := by decide +kernel
theorem dM_looped_176 : decode prog_11_method_20_code 176 = .ok (.iconst 1, 1) := by decide +kernel
theorem dM_looped_177 : decode prog_11_method_20_code 177 = .ok (.goto (4), 3) := by decide +kernel
theorem dM_looped_180 : decode prog_11_method_20_code 180 = .ok (.iconst 0, 1) := by decide +kernel
theorem dM_looped_181 : decode prog_11_method_20_code 181 = .ok (.istore_n 1, 1) := by decide +kernel
theorem dM_looped_182 : decode prog_11_method_20_code 182 = .ok (.iinc 2 (1), 3) := by decide +kernel
theorem dM_looped_185 : decode prog_11_method_20_code 185 = .ok (.goto (-30), 3) := by decide +kernel
theorem dM_looped_188 : decode prog_11_method_20_code 188 = .ok (.iload_n 1, 1) := by decide +kernel
theorem dM_looped_189 : decode prog_11_method_20_code 189 = .ok (.ireturn, 1) := by decide +kernel
theorem dM_isSound_0 : decode prog_11_method_21_code 0 = .ok (.iconst 1, 1) := by decide +kernel
theorem dM_isSound_1 : decode prog_11_method_21_code 1 = .ok (.istore_n 1, 1) := by decide +kernel
theorem dM_isSound_2 : decode prog_11_method_21_code 2 = .ok (.iconst 1, 1) := by decide +kernel
theorem dM_isSound_3 : decode prog_11_method_21_code 3 = .ok (.istore_n 2, 1) := by decide +kernel
theorem dM_isSound_4 : decode prog_11_method_21_code 4 = .ok (.iload_n 2, 1) := by decide +kernel
theorem dM_isSound_5 : decode prog_11_method_21_code 5 = .ok (.aload_n 0, 1) := by decide +kernel
theorem dM_isSound_6 : decode prog_11_method_21_code 6 = .ok (.getfield 53, 3) := by decide +kernel
theorem dM_isSound_9 : decode prog_11_method_21_code 9 = .ok (.if_icmp .gt (107), 3) := by decide +kernel
theorem dM_isSound_12 : decode prog_11_method_21_code 12 = .ok (.iconst 0, 1) := by decide +kernel
theorem dM_isSound_13 : decode prog_11_method_21_code 13 = .ok (.istore_n 3, 1) := by decide +kernel
theorem dM_isSound_14 : decode prog_11_method_21_code 14 = .ok (.iconst 0, 1) := by decide +kernel
theorem dM_isSound_15 : decode prog_11_method_21_code 15 = .ok (.istore 4, 2) := by decide +kernel
theorem dM_isSound_17 : decode prog_11_method_21_code 17 = .ok (.iload 4, 2) := by decide +kernel
theorem dM_isSound_19 : decode prog_11_method_21_code 19 = .ok (.bipush (27), 2) := by decide +kernel
theorem dM_isSound_21 : decode prog_11_method_21_code 21 = .ok (.if_icmp .ge (30), 3) := by decide +kernel
theorem dM_isSound_24 : decode prog_11_method_21_code 24 = .ok (.iload_n 3, 1) := by decide +kernel
theorem dM_isSound_25 : decode prog_11_method_21_code 25 = .ok (.ifCond .ne (14), 3) := by decide +kernel
theorem dM_isSound_28 : decode prog_11_method_21_code 28 = .ok (.aload_n 0, 1) := by decide +kernel
theorem dM_isSound_29 : decode prog_11_method_21_code 29 = .ok (.getfield 16, 3) := by decide +kernel
theorem dM_isSound_32 : decode prog_11_method_21_code 32 = .ok (.iload 4, 2) := by decide +kernel
theorem dM_isSound_34 : decode prog_11_method_21_code 34 = .ok (.iaload, 1) := by decide +kernel
theorem dM_isSound_35 : decode prog_11_method_21_code 35 = .ok (.iload_n 2, 1) := by decide +kernel
theorem dM_isSound_36 : decode prog_11_method_21_code 36 = .ok (.if_icmp .ne (7), 3) := by decide +kernel
theorem dM_isSound_39 : decode prog_11_method_21_code 39 = .ok (.iconst 1, 1) := by decide +kernel
theorem dM_isSound_40 : decode prog_11_method_21_code 40 = .ok (.goto (4), 3) := by decide +kernel
theorem dM_isSound_43 : decode prog_11_method_21_code 43 = .ok (.iconst 0, 1) := by decide +kernel
theorem dM_isSound_44 : decode prog_11_method_21_code 44 = .ok (.istore_n 3, 1) := by decide +kernel
theorem dM_isSound_45 : decode prog_11_method_21_code 45 = .ok (.iinc 4 (1), 3) := by decide +kernel
theorem dM_isSound_48 : decode prog_11_method_21_code 48 = .ok (.goto (-31), 3) := by decide +kernel
theorem dM_isSound_51 : decode prog_11_method_21_code 51 = .ok (.iload_n 1, 1) := by decide +kernel
theorem dM_isSound_52 : decode prog_11_method_21_code 52 = .ok (.ifCond .eq (11), 3) := by decide +kernel
theorem dM_isSound_55 : decode prog_11_method_21_code 55 = .ok (.iload_n 3, 1) := by decide +kernel
theorem dM_isSound_56 : decode prog_11_method_21_code 56 = .ok (.ifCond .eq (7), 3) := by decide +kernel
theorem dM_isSound_59 : decode prog_11_method_21_code 59 = .ok (.iconst 1, 1) := by decide +kernel
theorem dM_isSound_60 : decode prog_11_method_21_code 60 = .ok (.goto (4), 3) := by decide +kernel
theorem dM_isSound_63 : decode prog_11_method_21_code 63 = .ok (.iconst 0, 1) := by decide +kernel
theorem dM_isSound_64 : decode prog_11_method_21_code 64 = .ok (.istore_n 1, 1) := by decide +kernel
theorem dM_isSound_65 : decode prog_11_method_21_code 65 = .ok (.iconst 0, 1) := by decide +kernel
theorem dM_isSound_66 : decode prog_11_method_21_code 66 = .ok (.istore 4, 2) := by decide +kernel
theorem dM_isSound_68 : decode prog_11_method_21_code 68 = .ok (.iload 4, 2) := by decide +kernel
theorem dM_isSound_70 : decode prog_11_method_21_code 70 = .ok (.aload_n 0, 1) := by decide +kernel
theorem dM_isSound_71 : decode prog_11_method_21_code 71 = .ok (.iload_n 2, 1) := by decide +kernel
theorem dM_isSound_72 : decode prog_11_method_21_code 72 = .ok (.invokevirtual 63, 3) := by decide +kernel
theorem dM_isSound_75 : decode prog_11_method_21_code 75 = .ok (.if_icmp .ge (35), 3) := by decide +kernel
theorem dM_isSound_78 : decode prog_11_method_21_code 78 = .ok (.iload_n 1, 1) := by decide +kernel
theorem dM_isSound_79 : decode prog_11_method_21_code 79 = .ok (.ifCond .eq (23), 3) := by decide +kernel
theorem dM_isSound_82 : decode prog_11_method_21_code 82 = .ok (.aload_n 0, 1) := by decide +kernel
theorem dM_isSound_83 : decode prog_11_method_21_code 83 = .ok (.getfield 16, 3) := by decide +kernel
theorem dM_isSound_86 : decode prog_11_method_21_code 86 = .ok (.iconst 2, 1) := by decide +kernel
theorem dM_isSound_87 : decode prog_11_method_21_code 87 = .ok (.iload_n 2, 1) := by decide +kernel
theorem dM_isSound_88 : decode prog_11_method_21_code 88 = .ok (.imul, 1) := by decide +kernel
theorem dM_isSound_89 : decode prog_11_method_21_code 89 = .ok (.iconst 2, 1) := by decide +kernel
theorem dM_isSound_90 : decode prog_11_method_21_code 90 = .ok (.isub, 1) := by decide +kernel
theorem dM_isSound_91 : decode prog_11_method_21_code 91 = .ok (.iload 4, 2) := by decide +kernel
theorem dM_isSound_93 : decode prog_11_method_21_code 93 = .ok (.iadd, 1) := by decide +kernel
theorem dM_isSound_94 : decode prog_11_method_21_code 94 = .ok (.iaload, 1) := by decide +kernel
theorem dM_isSound_95 : decode prog_11_method_21_code 95 = .ok (.ifCond .eq (7), 3) := by decide +kernel
theorem dM_isSound_98 : decode prog_11_method_21_code 98 = .ok (.iconst 1, 1) := by decide +kernel
theorem dM_isSound_99 : decode prog_11_method_21_code 99 = .ok (.goto (4), 3) := by decide +kernel
theorem dM_isSound_102 : decode prog_11_method_21_code 102 = .ok (.iconst 0, 1) := by decide +kernel
theorem dM_isSound_103 : decode prog_11_method_21_code 103 = .ok (.istore_n 1, 1) := by decide +kernel
theorem dM_isSound_104 : decode prog_11_method_21_code 104 = .ok (.iinc 4 (1), 3) := by decide +kernel
theorem dM_isSound_107 : decode prog_11_method_21_code 107 = .ok (.goto (-39), 3) := by decide +kernel
theorem dM_isSound_110 : decode prog_11_method_21_code 110 = .ok (.iinc 2 (1), 3) := by decide +kernel
theorem dM_isSound_113 : decode prog_11_method_21_code 113 = .ok (.goto (-109), 3) := by decide +kernel
theorem dM_isSound_116 : decode prog_11_method_21_code 116 = .ok (.iload_n 1, 1) := by decide +kernel
theorem dM_isSound_117 : decode prog_11_method_21_code 117 = .ok (.ifCond .eq (14), 3) := by decide +kernel
theorem dM_isSound_120 : decode prog_11_method_21_code 120 = .ok (.aload_n 0, 1) := by decide +kernel
theorem dM_isSound_121 : decode prog_11_method_21_code 121 = .ok (.invokevirtual 88, 3) := by decide +kernel
theorem dM_isSound_124 : decode prog_11_method_21_code 124 = .ok (.ifCond .ne (7), 3) := by decide +kernel
theorem dM_isSound_127 : decode prog_11_method_21_code 127 = .ok (.iconst 1, 1) := by decide +kernel
theorem dM_isSound_128 : decode prog_11_method_21_code 128 = .ok (.goto (4), 3) := by decide +kernel
theorem dM_isSound_131 : decode prog_11_method_21_code 131 = .ok (.iconst 0, 1) := by decide +kernel
theorem dM_isSound_132 : decode prog_11_method_21_code 132 = .ok (.ireturn, 1) := by decide +kernel
theorem dM_sound_0 : decode prog_11_method_22_code 0 = .ok (.aload_n 0, 1) := by decide +kernel
theorem dM_sound_1 : decode prog_11_method_22_code 1 = .ok (.iconst 0, 1) := by decide +kernel
theorem dM_sound_2 : decode prog_11_method_22_code 2 = .ok (.putfield 49, 3) := by decide +kernel
theorem dM_sound_5 : decode prog_11_method_22_code 5 = .ok (.aload_n 0, 1) := by decide +kernel
theorem dM_sound_6 : decode prog_11_method_22_code 6 = .ok (.invokevirtual 92, 3) := by decide +kernel
theorem dM_sound_9 : decode prog_11_method_22_code 9 = .ok (.ireturn, 1) := by decide +kernel
theorem dM_period_0 : decode prog_11_method_23_code 0 = .ok (.aload_n 0, 1) := by decide +kernel
theorem dM_period_1 : decode prog_11_method_23_code 1 = .ok (.aload_n 0, 1) := by decide +kernel
theorem dM_period_2 : decode prog_11_method_23_code 2 = .ok (.invokevirtual 92, 3) := by decide +kernel
theorem dM_period_5 : decode prog_11_method_23_code 5 = .ok (.ifCond .eq (7), 3) := by decide +kernel
theorem dM_period_8 : decode prog_11_method_23_code 8 = .ok (.iconst 0, 1) := by decide +kernel
theorem dM_period_9 : decode prog_11_method_23_code 9 = .ok (.goto (4), 3) := by decide +kernel
theorem dM_period_12 : decode prog_11_method_23_code 12 = .ok (.iconst 1, 1) := by decide +kernel
theorem dM_period_13 : decode prog_11_method_23_code 13 = .ok (.putfield 49, 3) := by decide +kernel
theorem dM_period_16 : decode prog_11_method_23_code 16 = .ok (.aload_n 0, 1) := by decide +kernel
theorem dM_period_17 : decode prog_11_method_23_code 17 = .ok (.getfield 49, 3) := by decide +kernel
theorem dM_period_20 : decode prog_11_method_23_code 20 = .ok (.ifCond .eq (5), 3) := by decide +kernel
theorem dM_period_23 : decode prog_11_method_23_code 23 = .ok (.iconst 0, 1) := by decide +kernel
theorem dM_period_24 : decode prog_11_method_23_code 24 = .ok (.ireturn, 1) := by decide +kernel
theorem dM_period_25 : decode prog_11_method_23_code 25 = .ok (.aload_n 0, 1) := by decide +kernel
theorem dM_period_26 : decode prog_11_method_23_code 26 = .ok (.invokevirtual 95, 3) := by decide +kernel
theorem dM_period_29 : decode prog_11_method_23_code 29 = .ok (.iconst 0, 1) := by decide +kernel
theorem dM_period_30 : decode prog_11_method_23_code 30 = .ok (.istore_n 1, 1) := by decide +kernel
theorem dM_period_31 : decode prog_11_method_23_code 31 = .ok (.iconst 1, 1) := by decide +kernel
theorem dM_period_32 : decode prog_11_method_23_code 32 = .ok (.istore_n 2, 1) := by decide +kernel
theorem dM_period_33 : decode prog_11_method_23_code 33 = .ok (.iload_n 2, 1) := by decide +kernel
theorem dM_period_34 : decode prog_11_method_23_code 34 = .ok (.aload_n 0, 1) := by decide +kernel
theorem dM_period_35 : decode prog_11_method_23_code 35 = .ok (.getfield 53, 3) := by decide +kernel
theorem dM_period_38 : decode prog_11_method_23_code 38 = .ok (.if_icmp .gt (55), 3) := by decide +kernel
theorem dM_period_41 : decode prog_11_method_23_code 41 = .ok (.iconst 1, 1) := by decide +kernel
theorem dM_period_42 : decode prog_11_method_23_code 42 = .ok (.istore_n 3, 1) := by decide +kernel
theorem dM_period_43 : decode prog_11_method_23_code 43 = .ok (.iload_n 3, 1) := by decide +kernel
theorem dM_period_44 : decode prog_11_method_23_code 44 = .ok (.aload_n 0, 1) := by decide +kernel
theorem dM_period_45 : decode prog_11_method_23_code 45 = .ok (.getfield 53, 3) := by decide +kernel
theorem dM_period_48 : decode prog_11_method_23_code 48 = .ok (.if_icmp .gt (39), 3) := by decide +kernel
theorem dM_period_51 : decode prog_11_method_23_code 51 = .ok (.aload_n 0, 1) := by decide +kernel
theorem dM_period_52 : decode prog_11_method_23_code 52 = .ok (.iload_n 2, 1) := by decide +kernel
theorem dM_period_53 : decode prog_11_method_23_code 53 = .ok (.iload_n 3, 1) := by decide +kernel
theorem dM_period_54 : decode prog_11_method_23_code 54 = .ok (.invokevirtual 85, 3) := by decide +kernel
theorem dM_period_57 : decode prog_11_method_23_code 57 = .ok (.ifCond .ne (22), 3) := by decide +kernel
theorem dM_period_60 : decode prog_11_method_23_code 60 = .ok (.aload_n 0, 1) := by decide +kernel
theorem dM_period_61 : decode prog_11_method_23_code 61 = .ok (.iload_n 2, 1) := by decide +kernel
theorem dM_period_62 : decode prog_11_method_23_code 62 = .ok (.iload_n 3, 1) := by decide +kernel
theorem dM_period_63 : decode prog_11_method_23_code 63 = .ok (.invokevirtual 98, 3) := by decide +kernel
theorem dM_period_66 : decode prog_11_method_23_code 66 = .ok (.iload_n 1, 1) := by decide +kernel
theorem dM_period_67 : decode prog_11_method_23_code 67 = .ok (.if_icmp .le (12), 3) := by decide +kernel
theorem dM_period_70 : decode prog_11_method_23_code 70 = .ok (.aload_n 0, 1) := by decide +kernel
theorem dM_period_71 : decode prog_11_method_23_code 71 = .ok (.iload_n 2, 1) := by decide +kernel
theorem dM_period_72 : decode prog_11_method_23_code 72 = .ok (.iload_n 3, 1) := by decide +kernel
theorem dM_period_73 : decode prog_11_method_23_code 73 = .ok (.invokevirtual 98, 3) := by decide +kernel
theorem dM_period_76 : decode prog_11_method_23_code 76 = .ok (.goto (4), 3) := by decide +kernel
theorem dM_period_79 : decode prog_11_method_23_code 79 = .ok (.iload_n 1, 1) := by decide +kernel
theorem dM_period_80 : decode prog_11_method_23_code 80 = .ok (.istore_n 1, 1) := by decide +kernel
theorem dM_period_81 : decode prog_11_method_23_code 81 = .ok (.iinc 3 (1), 3) := by decide +kernel
theorem dM_period_84 : decode prog_11_method_23_code 84 = .ok (.goto (-41), 3) := by decide +kernel
theorem dM_period_87 : decode prog_11_method_23_code 87 = .ok (.iinc 2 (1), 3) := by decide +kernel
theorem dM_period_90 : decode prog_11_method_23_code 90 = .ok (.goto (-57), 3) := by decide +kernel
theorem dM_period_93 : decode prog_11_method_23_code 93 = .ok (.iload_n 1, 1) := by decide +kernel
theorem dM_period_94 : decode prog_11_method_23_code 94 = .ok (.ireturn, 1) := by decide +kernel
theorem dM_weight_0 : decode prog_11_method_24_code 0 = .ok (.aload_n 0, 1) := by decide +kernel
theorem dM_weight_1 : decode prog_11_method_24_code 1 = .ok (.aload_n 0, 1) := by decide +kernel
theorem dM_weight_2 : decode prog_11_method_24_code 2 = .ok (.iload_n 1, 1) := by decide +kernel
theorem dM_weight_3 : decode prog_11_method_24_code 3 = .ok (.invokevirtual 60, 3) := by decide +kernel
theorem dM_weight_6 : decode prog_11_method_24_code 6 = .ok (.ifCond .eq (11), 3) := by decide +kernel
theorem dM_weight_9 : decode prog_11_method_24_code 9 = .ok (.aload_n 0, 1) := by decide +kernel
theorem dM_weight_10 : decode prog_11_method_24_code 10 = .ok (.iload_n 2, 1) := by decide +kernel
theorem dM_weight_11 : decode prog_11_method_24_code 11 = .ok (.invokevirtual 60, 3) := by decide +kernel
theorem dM_weight_14 : decode prog_11_method_24_code 14 = .ok (.ifCond .ne (7), 3) := by decide +kernel
theorem dM_weight_17 : decode prog_11_method_24_code 17 = .ok (.iconst 1, 1) := by decide +kernel
theorem dM_weight_18 : decode prog_11_method_24_code 18 = .ok (.goto (15), 3) := by decide +kernel
theorem dM_weight_21 : decode prog_11_method_24_code 21 = .ok (.aload_n 0, 1) := by decide +kernel
theorem dM_weight_22 : decode prog_11_method_24_code 22 = .ok (.invokevirtual 92, 3) := by decide +kernel
theorem dM_weight_25 : decode prog_11_method_24_code 25 = .ok (.ifCond .eq (7), 3) := by decide +kernel
theorem dM_weight_28 : decode prog_11_method_24_code 28 = .ok (.iconst 0, 1) := by decide +kernel
theorem dM_weight_29 : decode prog_11_method_24_code 29 = .ok (.goto (4), 3) := by decide +kernel
theorem dM_weight_32 : decode prog_11_method_24_code 32 = .ok (.iconst 2, 1) := by decide +kernel
theorem dM_weight_33 : decode prog_11_method_24_code 33 = .ok (.putfield 49, 3) := by decide +kernel
theorem dM_weight_36 : decode prog_11_method_24_code 36 = .ok (.aload_n 0, 1) := by decide +kernel
theorem dM_weight_37 : decode prog_11_method_24_code 37 = .ok (.getfield 49, 3) := by decide +kernel
theorem dM_weight_40 : decode prog_11_method_24_code 40 = .ok (.ifCond .eq (5), 3) := by decide +kernel
theorem dM_weight_43 : decode prog_11_method_24_code 43 = .ok (.iconst 0, 1) := by decide +kernel
theorem dM_weight_44 : decode prog_11_method_24_code 44 = .ok (.ireturn, 1) := by decide +kernel
theorem dM_weight_45 : decode prog_11_method_24_code 45 = .ok (.aload_n 0, 1) := by decide +kernel
theorem dM_weight_46 : decode prog_11_method_24_code 46 = .ok (.invokevirtual 95, 3) := by decide +kernel
theorem dM_weight_49 : decode prog_11_method_24_code 49 = .ok (.aload_n 0, 1) := by decide +kernel
theorem dM_weight_50 : decode prog_11_method_24_code 50 = .ok (.iload_n 1, 1) := by decide +kernel
theorem dM_weight_51 : decode prog_11_method_24_code 51 = .ok (.iload_n 2, 1) := by decide +kernel
theorem dM_weight_52 : decode prog_11_method_24_code 52 = .ok (.invokevirtual 85, 3) := by decide +kernel
theorem dM_weight_55 : decode prog_11_method_24_code 55 = .ok (.sipush (1000), 3) := by decide +kernel
theorem dM_weight_58 : decode prog_11_method_24_code 58 = .ok (.if_icmp .ne (7), 3) := by decide +kernel
theorem dM_weight_61 : decode prog_11_method_24_code 61 = .ok (.iconst (-1), 1) := by decide +kernel
theorem dM_weight_62 : decode prog_11_method_24_code 62 = .ok (.goto (9), 3) := by decide +kernel
theorem dM_weight_65 : decode prog_11_method_24_code 65 = .ok (.aload_n 0, 1) := by decide +kernel
theorem dM_weight_66 : decode prog_11_method_24_code 66 = .ok (.iload_n 1, 1) := by decide +kernel
theorem dM_weight_67 : decode prog_11_method_24_code 67 = .ok (.iload_n 2, 1) := by decide +kernel
theorem dM_weight_68 : decode prog_11_method_24_code 68 = .ok (.invokevirtual 85, 3) := by decide +kernel
theorem dM_weight_71 : decode prog_11_method_24_code 71 = .ok (.ireturn, 1) := by decide +kernel
theorem dM_delay_0 : decode prog_11_method_25_code 0 = .ok (.aload_n 0, 1) := by decide +kernel
theorem dM_delay_1 : decode prog_11_method_25_code 1 = .ok (.aload_n 0, 1) := by decide +kernel
theorem dM_delay_2 : decode prog_11_method_25_code 2 = .ok (.iload_n 1, 1) := by decide +kernel
theorem dM_delay_3 : decode prog_11_method_25_code 3 = .ok (.invokevirtual 60, 3) := by decide +kernel
theorem dM_delay_6 : decode prog_11_method_25_code 6 = .ok (.ifCond .eq (11), 3) := by decide +kernel
theorem dM_delay_9 : decode prog_11_method_25_code 9 = .ok (.aload_n 0, 1) := by decide +kernel
theorem dM_delay_10 : decode prog_11_method_25_code 10 = .ok (.iload_n 2, 1) := by decide +kernel
theorem dM_delay_11 : decode prog_11_method_25_code 11 = .ok (.invokevirtual 60, 3) := by decide +kernel
theorem dM_delay_14 : decode prog_11_method_25_code 14 = .ok (.ifCond .ne (7), 3) := by decide +kernel
theorem dM_delay_17 : decode prog_11_method_25_code 17 = .ok (.iconst 1, 1) := by decide +kernel
theorem dM_delay_18 : decode prog_11_method_25_code 18 = .ok (.goto (15), 3) := by decide +kernel
theorem dM_delay_21 : decode prog_11_method_25_code 21 = .ok (.aload_n 0, 1) := by decide +kernel
theorem dM_delay_22 : decode prog_11_method_25_code 22 = .ok (.invokevirtual 92, 3) := by decide +kernel
theorem dM_delay_25 : decode prog_11_method_25_code 25 = .ok (.ifCond .eq (7), 3) := by decide +kernel
theorem dM_delay_28 : decode prog_11_method_25_code 28 = .ok (.iconst 0, 1) := by decide +kernel
theorem dM_delay_29 : decode prog_11_method_25_code 29 = .ok (.goto (4), 3) := by decide +kernel
theorem dM_delay_32 : decode prog_11_method_25_code 32 = .ok (.iconst 2, 1) := by decide +kernel
theorem dM_delay_33 : decode prog_11_method_25_code 33 = .ok (.putfield 49, 3) := by decide +kernel
theorem dM_delay_36 : decode prog_11_method_25_code 36 = .ok (.aload_n 0, 1) := by decide +kernel
theorem dM_delay_37 : decode prog_11_method_25_code 37 = .ok (.getfield 49, 3) := by decide +kernel
theorem dM_delay_40 : decode prog_11_method_25_code 40 = .ok (.ifCond .eq (5), 3) := by decide +kernel
theorem dM_delay_43 : decode prog_11_method_25_code 43 = .ok (.iconst 0, 1) := by decide +kernel
theorem dM_delay_44 : decode prog_11_method_25_code 44 = .ok (.ireturn, 1) := by decide +kernel
theorem dM_delay_45 : decode prog_11_method_25_code 45 = .ok (.aload_n 0, 1) := by decide +kernel
theorem dM_delay_46 : decode prog_11_method_25_code 46 = .ok (.invokevirtual 95, 3) := by decide +kernel
theorem dM_delay_49 : decode prog_11_method_25_code 49 = .ok (.aload_n 0, 1) := by decide +kernel
theorem dM_delay_50 : decode prog_11_method_25_code 50 = .ok (.iload_n 1, 1) := by decide +kernel
theorem dM_delay_51 : decode prog_11_method_25_code 51 = .ok (.iload_n 2, 1) := by decide +kernel
theorem dM_delay_52 : decode prog_11_method_25_code 52 = .ok (.invokevirtual 85, 3) := by decide +kernel
theorem dM_delay_55 : decode prog_11_method_25_code 55 = .ok (.sipush (1000), 3) := by decide +kernel
theorem dM_delay_58 : decode prog_11_method_25_code 58 = .ok (.if_icmp .ne (7), 3) := by decide +kernel
theorem dM_delay_61 : decode prog_11_method_25_code 61 = .ok (.iconst (-1), 1) := by decide +kernel
theorem dM_delay_62 : decode prog_11_method_25_code 62 = .ok (.goto (9), 3) := by decide +kernel
theorem dM_delay_65 : decode prog_11_method_25_code 65 = .ok (.aload_n 0, 1) := by decide +kernel
theorem dM_delay_66 : decode prog_11_method_25_code 66 = .ok (.iload_n 1, 1) := by decide +kernel
theorem dM_delay_67 : decode prog_11_method_25_code 67 = .ok (.iload_n 2, 1) := by decide +kernel
theorem dM_delay_68 : decode prog_11_method_25_code 68 = .ok (.invokevirtual 98, 3) := by decide +kernel
theorem dM_delay_71 : decode prog_11_method_25_code 71 = .ok (.ireturn, 1) := by decide +kernel
theorem dM_labelOf_0 : decode prog_11_method_26_code 0 = .ok (.iload_n 1, 1) := by decide +kernel
theorem dM_labelOf_1 : decode prog_11_method_26_code 1 = .ok (.ifCond .le (12), 3) := by decide +kernel
theorem dM_labelOf_4 : decode prog_11_method_26_code 4 = .ok (.aload_n 0, 1) := by decide +kernel
theorem dM_labelOf_5 : decode prog_11_method_26_code 5 = .ok (.getfield 37, 3) := by decide +kernel
theorem dM_labelOf_8 : decode prog_11_method_26_code 8 = .ok (.iload_n 1, 1) := by decide +kernel
theorem dM_labelOf_9 : decode prog_11_method_26_code 9 = .ok (.iaload, 1) := by decide +kernel
theorem dM_labelOf_10 : decode prog_11_method_26_code 10 = .ok (.goto (4), 3) := by decide +kernel
theorem dM_labelOf_13 : decode prog_11_method_26_code 13 = .ok (.iconst 0, 1) := by decide +kernel
theorem dM_labelOf_14 : decode prog_11_method_26_code 14 = .ok (.ireturn, 1) := by decide +kernel
theorem dM_lower_0 : decode prog_11_method_27_code 0 = .ok (.iload_n 1, 1) := by decide +kernel
theorem dM_lower_1 : decode prog_11_method_27_code 1 = .ok (.ifCond .gt (13), 3) := by decide +kernel
theorem dM_lower_4 : decode prog_11_method_27_code 4 = .ok (.iload_n 2, 1) := by decide +kernel
theorem dM_lower_5 : decode prog_11_method_27_code 5 = .ok (.ifCond .lt (7), 3) := by decide +kernel
theorem dM_lower_8 : decode prog_11_method_27_code 8 = .ok (.iconst 1, 1) := by decide +kernel
theorem dM_lower_9 : decode prog_11_method_27_code 9 = .ok (.goto (4), 3) := by decide +kernel
theorem dM_lower_12 : decode prog_11_method_27_code 12 = .ok (.iconst 0, 1) := by decide +kernel
theorem dM_lower_13 : decode prog_11_method_27_code 13 = .ok (.ireturn, 1) := by decide +kernel
theorem dM_lower_14 : decode prog_11_method_27_code 14 = .ok (.aload_n 0, 1) := by decide +kernel
theorem dM_lower_15 : decode prog_11_method_27_code 15 = .ok (.getfield 37, 3) := by decide +kernel
theorem dM_lower_18 : decode prog_11_method_27_code 18 = .ok (.iload_n 1, 1) := by decide +kernel
theorem dM_lower_19 : decode prog_11_method_27_code 19 = .ok (.aload_n 0, 1) := by decide +kernel
theorem dM_lower_20 : decode prog_11_method_27_code 20 = .ok (.getfield 37, 3) := by decide +kernel
theorem dM_lower_23 : decode prog_11_method_27_code 23 = .ok (.iload_n 1, 1) := by decide +kernel
theorem dM_lower_24 : decode prog_11_method_27_code 24 = .ok (.iaload, 1) := by decide +kernel
theorem dM_lower_25 : decode prog_11_method_27_code 25 = .ok (.iload_n 2, 1) := by decide +kernel
theorem dM_lower_26 : decode prog_11_method_27_code 26 = .ok (.if_icmp .le (7), 3) := by decide +kernel
theorem dM_lower_29 : decode prog_11_method_27_code 29 = .ok (.iload_n 2, 1) := by decide +kernel
theorem dM_lower_30 : decode prog_11_method_27_code 30 = .ok (.goto (9), 3) := by decide +kernel
theorem dM_lower_33 : decode prog_11_method_27_code 33 = .ok (.aload_n 0, 1) := by decide +kernel
theorem dM_lower_34 : decode prog_11_method_27_code 34 = .ok (.getfield 37, 3) := by decide +kernel
theorem dM_lower_37 : decode prog_11_method_27_code 37 = .ok (.iload_n 1, 1) := by decide +kernel
theorem dM_lower_38 : decode prog_11_method_27_code 38 = .ok (.iaload, 1) := by decide +kernel
theorem dM_lower_39 : decode prog_11_method_27_code 39 = .ok (.iastore, 1) := by decide +kernel
theorem dM_lower_40 : decode prog_11_method_27_code 40 = .ok (.aload_n 0, 1) := by decide +kernel
theorem dM_lower_41 : decode prog_11_method_27_code 41 = .ok (.getfield 37, 3) := by decide +kernel
theorem dM_lower_44 : decode prog_11_method_27_code 44 = .ok (.iload_n 1, 1) := by decide +kernel
theorem dM_lower_45 : decode prog_11_method_27_code 45 = .ok (.iaload, 1) := by decide +kernel
theorem dM_lower_46 : decode prog_11_method_27_code 46 = .ok (.bipush (-6), 2) := by decide +kernel
theorem dM_lower_48 : decode prog_11_method_27_code 48 = .ok (.if_icmp .lt (7), 3) := by decide +kernel
theorem dM_lower_51 : decode prog_11_method_27_code 51 = .ok (.iconst 1, 1) := by decide +kernel
theorem dM_lower_52 : decode prog_11_method_27_code 52 = .ok (.goto (4), 3) := by decide +kernel
theorem dM_lower_55 : decode prog_11_method_27_code 55 = .ok (.iconst 0, 1) := by decide +kernel
theorem dM_lower_56 : decode prog_11_method_27_code 56 = .ok (.ireturn, 1) := by decide +kernel
theorem dM_lowerAll_0 : decode prog_11_method_28_code 0 = .ok (.iconst 1, 1) := by decide +kernel
theorem dM_lowerAll_1 : decode prog_11_method_28_code 1 = .ok (.istore_n 2, 1) := by decide +kernel
theorem dM_lowerAll_2 : decode prog_11_method_28_code 2 = .ok (.iconst 0, 1) := by decide +kernel
theorem dM_lowerAll_3 : decode prog_11_method_28_code 3 = .ok (.istore_n 3, 1) := by decide +kernel
theorem dM_lowerAll_4 : decode prog_11_method_28_code 4 = .ok (.iload_n 3, 1) := by decide +kernel
theorem dM_lowerAll_5 : decode prog_11_method_28_code 5 = .ok (.bipush (27), 2) := by decide +kernel
theorem dM_lowerAll_7 : decode prog_11_method_28_code 7 = .ok (.if_icmp .ge (99), 3) := by decide +kernel
theorem dM_lowerAll_10 : decode prog_11_method_28_code 10 = .ok (.aload_n 0, 1) := by decide +kernel
theorem dM_lowerAll_11 : decode prog_11_method_28_code 11 = .ok (.getfield 16, 3) := by decide +kernel
theorem dM_lowerAll_14 : decode prog_11_method_28_code 14 = .ok (.iload_n 3, 1) := by decide +kernel
theorem dM_lowerAll_15 : decode prog_11_method_28_code 15 = .ok (.iaload, 1) := by decide +kernel
theorem dM_lowerAll_16 : decode prog_11_method_28_code 16 = .ok (.ifCond .eq (84), 3) := by decide +kernel
theorem dM_lowerAll_19 : decode prog_11_method_28_code 19 = .ok (.iload_n 3, 1) := by decide +kernel
theorem dM_lowerAll_20 : decode prog_11_method_28_code 20 = .ok (.invokestatic 82, 3) := by decide +kernel
theorem dM_lowerAll_23 : decode prog_11_method_28_code 23 = .ok (.istore 4, 2) := by decide +kernel
theorem dM_lowerAll_25 : decode prog_11_method_28_code 25 = .ok (.iload_n 2, 1) := by decide +kernel
theorem dM_lowerAll_26 : decode prog_11_method_28_code 26 = .ok (.ifCond .eq (33), 3) := by decide +kernel
theorem dM_lowerAll_29 : decode prog_11_method_28_code 29 = .ok (.aload_n 0, 1) := by decide +kernel
theorem dM_lowerAll_30 : decode prog_11_method_28_code 30 = .ok (.aload_n 0, 1) := by decide +kernel
theorem dM_lowerAll_31 : decode prog_11_method_28_code 31 = .ok (.getfield 16, 3) := by decide +kernel
theorem dM_lowerAll_34 : decode prog_11_method_28_code 34 = .ok (.iload_n 3, 1) := by decide +kernel
theorem dM_lowerAll_35 : decode prog_11_method_28_code 35 = .ok (.iaload, 1) := by decide +kernel
theorem dM_lowerAll_36 : decode prog_11_method_28_code 36 = .ok (.aload_n 0, 1) := by decide +kernel
theorem dM_lowerAll_37 : decode prog_11_method_28_code 37 = .ok (.getfield 19, 3) := by decide +kernel
theorem dM_lowerAll_40 : decode prog_11_method_28_code 40 = .ok (.iload_n 3, 1) := by decide +kernel
theorem dM_lowerAll_41 : decode prog_11_method_28_code 41 = .ok (.iaload, 1) := by decide +kernel
theorem dM_lowerAll_42 : decode prog_11_method_28_code 42 = .ok (.aload_n 0, 1) := by decide +kernel
theorem dM_lowerAll_43 : decode prog_11_method_28_code 43 = .ok (.iload 4, 2) := by decide +kernel
theorem dM_lowerAll_45 : decode prog_11_method_28_code 45 = .ok (.invokevirtual 101, 3) := by decide +kernel
theorem dM_lowerAll_48 : decode prog_11_method_28_code 48 = .ok (.iadd, 1) := by decide +kernel
theorem dM_lowerAll_49 : decode prog_11_method_28_code 49 = .ok (.invokevirtual 104, 3) := by decide +kernel
theorem dM_lowerAll_52 : decode prog_11_method_28_code 52 = .ok (.ifCond .eq (7), 3) := by decide +kernel
theorem dM_lowerAll_55 : decode prog_11_method_28_code 55 = .ok (.iconst 1, 1) := by decide +kernel
theorem dM_lowerAll_56 : decode prog_11_method_28_code 56 = .ok (.goto (4), 3) := by decide +kernel
theorem dM_lowerAll_59 : decode prog_11_method_28_code 59 = .ok (.iconst 0, 1) := by decide +kernel
theorem dM_lowerAll_60 : decode prog_11_method_28_code 60 = .ok (.istore_n 2, 1) := by decide +kernel
theorem dM_lowerAll_61 : decode prog_11_method_28_code 61 = .ok (.iload_n 2, 1) := by decide +kernel
theorem dM_lowerAll_62 : decode prog_11_method_28_code 62 = .ok (.ifCond .eq (36), 3) := by decide +kernel
theorem dM_lowerAll_65 : decode prog_11_method_28_code 65 = .ok (.aload_n 0, 1) := by decide +kernel
theorem dM_lowerAll_66 : decode prog_11_method_28_code 66 = .ok (.iload 4, 2) := by decide +kernel
theorem dM_lowerAll_68 : decode prog_11_method_28_code 68 = .ok (.bipush (20), 2) := by decide +kernel
theorem dM_lowerAll_70 : decode prog_11_method_28_code 70 = .ok (.aload_n 0, 1) := by decide +kernel
theorem dM_lowerAll_71 : decode prog_11_method_28_code 71 = .ok (.getfield 19, 3) := by decide +kernel
theorem dM_lowerAll_74 : decode prog_11_method_28_code 74 = .ok (.iload_n 3, 1) := by decide +kernel
theorem dM_lowerAll_75 : decode prog_11_method_28_code 75 = .ok (.iaload, 1) := by decide +kernel
theorem dM_lowerAll_76 : decode prog_11_method_28_code 76 = .ok (.isub, 1) := by decide +kernel
theorem dM_lowerAll_77 : decode prog_11_method_28_code 77 = .ok (.aload_n 0, 1) := by decide +kernel
theorem dM_lowerAll_78 : decode prog_11_method_28_code 78 = .ok (.aload_n 0, 1) := by decide +kernel
theorem dM_lowerAll_79 : decode prog_11_method_28_code 79 = .ok (.getfield 16, 3) := by decide +kernel
theorem dM_lowerAll_82 : decode prog_11_method_28_code 82 = .ok (.iload_n 3, 1) := by decide +kernel
theorem dM_lowerAll_83 : decode prog_11_method_28_code 83 = .ok (.iaload, 1) := by decide +kernel
theorem dM_lowerAll_84 : decode prog_11_method_28_code 84 = .ok (.invokevirtual 101, 3) := by decide +kernel
theorem dM_lowerAll_87 : decode prog_11_method_28_code 87 = .ok (.iadd, 1) := by decide +kernel
theorem dM_lowerAll_88 : decode prog_11_method_28_code 88 = .ok (.invokevirtual 104, 3) := by decide +kernel
theorem dM_lowerAll_91 : decode prog_11_method_28_code 91 = .ok (.ifCond .eq (7), 3) := by decide +kernel
theorem dM_lowerAll_94 : decode prog_11_method_28_code 94 = .ok (.iconst 1, 1) := by decide +kernel
theorem dM_lowerAll_95 : decode prog_11_method_28_code 95 = .ok (.goto (4), 3) := by decide +kernel
theorem dM_lowerAll_98 : decode prog_11_method_28_code 98 = .ok (.iconst 0, 1) := by decide +kernel
theorem dM_lowerAll_99 : decode prog_11_method_28_code 99 = .ok (.istore_n 2, 1) := by decide +kernel
theorem dM_lowerAll_100 : decode prog_11_method_28_code 100 = .ok (.iinc 3 (1), 3) := by decide +kernel
theorem dM_lowerAll_103 : decode prog_11_method_28_code 103 = .ok (.goto (-99), 3) := by decide +kernel
theorem dM_lowerAll_106 : decode prog_11_method_28_code 106 = .ok (.iconst 1, 1) := by decide +kernel
theorem dM_lowerAll_107 : decode prog_11_method_28_code 107 = .ok (.istore_n 3, 1) := by decide +kernel
theorem dM_lowerAll_108 : decode prog_11_method_28_code 108 = .ok (.iload_n 3, 1) := by decide +kernel
theorem dM_lowerAll_109 : decode prog_11_method_28_code 109 = .ok (.aload_n 0, 1) := by decide +kernel
theorem dM_lowerAll_110 : decode prog_11_method_28_code 110 = .ok (.getfield 53, 3) := by decide +kernel
theorem dM_lowerAll_113 : decode prog_11_method_28_code 113 = .ok (.if_icmp .gt (98), 3) := by decide +kernel
theorem dM_lowerAll_116 : decode prog_11_method_28_code 116 = .ok (.iconst 1, 1) := by decide +kernel
theorem dM_lowerAll_117 : decode prog_11_method_28_code 117 = .ok (.istore 4, 2) := by decide +kernel
theorem dM_lowerAll_119 : decode prog_11_method_28_code 119 = .ok (.iload 4, 2) := by decide +kernel
theorem dM_lowerAll_121 : decode prog_11_method_28_code 121 = .ok (.aload_n 0, 1) := by decide +kernel
theorem dM_lowerAll_122 : decode prog_11_method_28_code 122 = .ok (.getfield 53, 3) := by decide +kernel
theorem dM_lowerAll_125 : decode prog_11_method_28_code 125 = .ok (.if_icmp .gt (80), 3) := by decide +kernel
theorem dM_lowerAll_128 : decode prog_11_method_28_code 128 = .ok (.aload_n 0, 1) := by decide +kernel
theorem dM_lowerAll_129 : decode prog_11_method_28_code 129 = .ok (.iload_n 3, 1) := by decide +kernel
theorem dM_lowerAll_130 : decode prog_11_method_28_code 130 = .ok (.iload 4, 2) := by decide +kernel
theorem dM_lowerAll_132 : decode prog_11_method_28_code 132 = .ok (.invokevirtual 85, 3) := by decide +kernel
theorem dM_lowerAll_135 : decode prog_11_method_28_code 135 = .ok (.sipush (1000), 3) := by decide +kernel
theorem dM_lowerAll_138 : decode prog_11_method_28_code 138 = .ok (.if_icmp .ge (18), 3) := by decide +kernel
theorem dM_lowerAll_141 : decode prog_11_method_28_code 141 = .ok (.aload_n 0, 1) := by decide +kernel
theorem dM_lowerAll_142 : decode prog_11_method_28_code 142 = .ok (.iload_n 3, 1) := by decide +kernel
theorem dM_lowerAll_143 : decode prog_11_method_28_code 143 = .ok (.iload 4, 2) := by decide +kernel
theorem dM_lowerAll_145 : decode prog_11_method_28_code 145 = .ok (.invokevirtual 98, 3) := by decide +kernel
theorem dM_lowerAll_148 : decode prog_11_method_28_code 148 = .ok (.iload_n 1, 1) := by decide +kernel
theorem dM_lowerAll_149 : decode prog_11_method_28_code 149 = .ok (.if_icmp .le (7), 3) := by decide +kernel
theorem dM_lowerAll_152 : decode prog_11_method_28_code 152 = .ok (.iconst 1, 1) := by decide +kernel
theorem dM_lowerAll_153 : decode prog_11_method_28_code 153 = .ok (.goto (4), 3) := by decide +kernel
theorem dM_lowerAll_156 : decode prog_11_method_28_code 156 = .ok (.iconst 0, 1) := by decide +kernel
theorem dM_lowerAll_157 : decode prog_11_method_28_code 157 = .ok (.istore 5, 2) := by decide +kernel
theorem dM_lowerAll_159 : decode prog_11_method_28_code 159 = .ok (.iload_n 2, 1) := by decide +kernel
theorem dM_lowerAll_160 : decode prog_11_method_28_code 160 = .ok (.ifCond .eq (37), 3) := by decide +kernel
theorem dM_lowerAll_163 : decode prog_11_method_28_code 163 = .ok (.iload 5, 2) := by decide +kernel
theorem dM_lowerAll_165 : decode prog_11_method_28_code 165 = .ok (.ifCond .eq (28), 3) := by decide +kernel
theorem dM_lowerAll_168 : decode prog_11_method_28_code 168 = .ok (.aload_n 0, 1) := by decide +kernel
theorem dM_lowerAll_169 : decode prog_11_method_28_code 169 = .ok (.iload_n 3, 1) := by decide +kernel
theorem dM_lowerAll_170 : decode prog_11_method_28_code 170 = .ok (.aload_n 0, 1) := by decide +kernel
theorem dM_lowerAll_171 : decode prog_11_method_28_code 171 = .ok (.iload_n 3, 1) := by decide +kernel
theorem dM_lowerAll_172 : decode prog_11_method_28_code 172 = .ok (.iload 4, 2) := by decide +kernel
theorem dM_lowerAll_174 : decode prog_11_method_28_code 174 = .ok (.invokevirtual 85, 3) := by decide +kernel
theorem dM_lowerAll_177 : decode prog_11_method_28_code 177 = .ok (.aload_n 0, 1) := by decide +kernel
theorem dM_lowerAll_178 : decode prog_11_method_28_code 178 = .ok (.getfield 37, 3) := by decide +kernel
theorem dM_lowerAll_181 : decode prog_11_method_28_code 181 = .ok (.iload 4, 2) := by decide +kernel
theorem dM_lowerAll_183 : decode prog_11_method_28_code 183 = .ok (.iaload, 1) := by decide +kernel
theorem dM_lowerAll_184 : decode prog_11_method_28_code 184 = .ok (.iadd, 1) := by decide +kernel
theorem dM_lowerAll_185 : decode prog_11_method_28_code 185 = .ok (.iconst 1, 1) := by decide +kernel
theorem dM_lowerAll_186 : decode prog_11_method_28_code 186 = .ok (.isub, 1) := by decide +kernel
theorem dM_lowerAll_187 : decode prog_11_method_28_code 187 = .ok (.invokevirtual 104, 3) := by decide +kernel
theorem dM_lowerAll_190 : decode prog_11_method_28_code 190 = .ok (.ifCond .eq (7), 3) := by decide +kernel
theorem dM_lowerAll_193 : decode prog_11_method_28_code 193 = .ok (.iconst 1, 1) := by decide +kernel
theorem dM_lowerAll_194 : decode prog_11_method_28_code 194 = .ok (.goto (4), 3) := by decide +kernel
theorem dM_lowerAll_197 : decode prog_11_method_28_code 197 = .ok (.iconst 0, 1) := by decide +kernel
theorem dM_lowerAll_198 : decode prog_11_method_28_code 198 = .ok (.istore_n 2, 1) := by decide +kernel
theorem dM_lowerAll_199 : decode prog_11_method_28_code 199 = .ok (.iinc 4 (1), 3) := by decide +kernel
theorem dM_lowerAll_202 : decode prog_11_method_28_code 202 = .ok (.goto (-83), 3) := by decide +kernel
theorem dM_lowerAll_205 : decode prog_11_method_28_code 205 = .ok (.iinc 3 (1), 3) := by decide +kernel
theorem dM_lowerAll_208 : decode prog_11_method_28_code 208 = .ok (.goto (-100), 3) := by decide +kernel
theorem dM_lowerAll_211 : decode prog_11_method_28_code 211 = .ok (.iload_n 2, 1) := by decide +kernel
theorem dM_lowerAll_212 : decode prog_11_method_28_code 212 = .ok (.ireturn, 1) := by decide +kernel
theorem dM_find_0 : decode prog_11_method_29_code 0 = .ok (.iconst 1, 1) := by decide +kernel
theorem dM_find_1 : decode prog_11_method_29_code 1 = .ok (.istore_n 3, 1) := by decide +kernel
theorem dM_find_2 : decode prog_11_method_29_code 2 = .ok (.iload_n 3, 1) := by decide +kernel
theorem dM_find_3 : decode prog_11_method_29_code 3 = .ok (.aload_n 0, 1) := by decide +kernel
theorem dM_find_4 : decode prog_11_method_29_code 4 = .ok (.getfield 53, 3) := by decide +kernel
theorem dM_find_7 : decode prog_11_method_29_code 7 = .ok (.if_icmp .gt (16), 3) := by decide +kernel
theorem dM_find_10 : decode prog_11_method_29_code 10 = .ok (.aload_n 0, 1) := by decide +kernel
theorem dM_find_11 : decode prog_11_method_29_code 11 = .ok (.getfield 37, 3) := by decide +kernel
theorem dM_find_14 : decode prog_11_method_29_code 14 = .ok (.iload_n 3, 1) := by decide +kernel
theorem dM_find_15 : decode prog_11_method_29_code 15 = .ok (.iload_n 2, 1) := by decide +kernel
theorem dM_find_16 : decode prog_11_method_29_code 16 = .ok (.iastore, 1) := by decide +kernel
theorem dM_find_17 : decode prog_11_method_29_code 17 = .ok (.iinc 3 (1), 3) := by decide +kernel
theorem dM_find_20 : decode prog_11_method_29_code 20 = .ok (.goto (-18), 3) := by decide +kernel
theorem dM_find_23 : decode prog_11_method_29_code 23 = .ok (.sipush (1000), 3) := by decide +kernel
theorem dM_find_26 : decode prog_11_method_29_code 26 = .ok (.istore_n 3, 1) := by decide +kernel
theorem dM_find_27 : decode prog_11_method_29_code 27 = .ok (.bipush (12), 2) := by decide +kernel
theorem dM_find_29 : decode prog_11_method_29_code 29 = .ok (.iload_n 2, 1) := by decide +kernel
theorem dM_find_30 : decode prog_11_method_29_code 30 = .ok (.imul, 1) := by decide +kernel
theorem dM_find_31 : decode prog_11_method_29_code 31 = .ok (.istore 4, 2) := by decide +kernel
theorem dM_find_33 : decode prog_11_method_29_code 33 = .ok (.iconst 1, 1) := by decide +kernel
theorem dM_find_34 : decode prog_11_method_29_code 34 = .ok (.istore 5, 2) := by decide +kernel
theorem dM_find_36 : decode prog_11_method_29_code 36 = .ok (.iload 5, 2) := by decide +kernel
theorem dM_find_38 : decode prog_11_method_29_code 38 = .ok (.ifCond .eq (55), 3) := by decide +kernel
theorem dM_find_41 : decode prog_11_method_29_code 41 = .ok (.iload 4, 2) := by decide +kernel
theorem dM_find_43 : decode prog_11_method_29_code 43 = .ok (.iload_n 3, 1) := by decide +kernel
theorem dM_find_44 : decode prog_11_method_29_code 44 = .ok (.if_icmp .eq (49), 3) := by decide +kernel
theorem dM_find_47 : decode prog_11_method_29_code 47 = .ok (.iload 4, 2) := by decide +kernel
theorem dM_find_49 : decode prog_11_method_29_code 49 = .ok (.istore_n 3, 1) := by decide +kernel
theorem dM_find_50 : decode prog_11_method_29_code 50 = .ok (.aload_n 0, 1) := by decide +kernel
theorem dM_find_51 : decode prog_11_method_29_code 51 = .ok (.iload_n 1, 1) := by decide +kernel
theorem dM_find_52 : decode prog_11_method_29_code 52 = .ok (.invokevirtual 107, 3) := by decide +kernel
theorem dM_find_55 : decode prog_11_method_29_code 55 = .ok (.istore 5, 2) := by decide +kernel
theorem dM_find_57 : decode prog_11_method_29_code 57 = .ok (.iconst 0, 1) := by decide +kernel
theorem dM_find_58 : decode prog_11_method_29_code 58 = .ok (.istore 4, 2) := by decide +kernel
theorem dM_find_60 : decode prog_11_method_29_code 60 = .ok (.iconst 1, 1) := by decide +kernel
theorem dM_find_61 : decode prog_11_method_29_code 61 = .ok (.istore 6, 2) := by decide +kernel
theorem dM_find_63 : decode prog_11_method_29_code 63 = .ok (.iload 6, 2) := by decide +kernel
theorem dM_find_65 : decode prog_11_method_29_code 65 = .ok (.aload_n 0, 1) := by decide +kernel
theorem dM_find_66 : decode prog_11_method_29_code 66 = .ok (.getfield 53, 3) := by decide +kernel
theorem dM_find_69 : decode prog_11_method_29_code 69 = .ok (.if_icmp .gt (21), 3) := by decide +kernel
theorem dM_find_72 : decode prog_11_method_29_code 72 = .ok (.iload 4, 2) := by decide +kernel
theorem dM_find_74 : decode prog_11_method_29_code 74 = .ok (.aload_n 0, 1) := by decide +kernel
theorem dM_find_75 : decode prog_11_method_29_code 75 = .ok (.getfield 37, 3) := by decide +kernel
theorem dM_find_78 : decode prog_11_method_29_code 78 = .ok (.iload 6, 2) := by decide +kernel
theorem dM_find_80 : decode prog_11_method_29_code 80 = .ok (.iaload, 1) := by decide +kernel
theorem dM_find_81 : decode prog_11_method_29_code 81 = .ok (.iadd, 1) := by decide +kernel
theorem dM_find_82 : decode prog_11_method_29_code 82 = .ok (.istore 4, 2) := by decide +kernel
theorem dM_find_84 : decode prog_11_method_29_code 84 = .ok (.iinc 6 (1), 3) := by decide +kernel
theorem dM_find_87 : decode prog_11_method_29_code 87 = .ok (.goto (-24), 3) := by decide +kernel
theorem dM_find_90 : decode prog_11_method_29_code 90 = .ok (.goto (-54), 3) := by decide +kernel
theorem dM_find_93 : decode prog_11_method_29_code 93 = .ok (.iload 5, 2) := by decide +kernel
theorem dM_find_95 : decode prog_11_method_29_code 95 = .ok (.ireturn, 1) := by decide +kernel
theorem dM_least_0 : decode prog_11_method_30_code 0 = .ok (.aload_n 0, 1) := by decide +kernel
theorem dM_least_1 : decode prog_11_method_30_code 1 = .ok (.aload_n 0, 1) := by decide +kernel
theorem dM_least_2 : decode prog_11_method_30_code 2 = .ok (.invokevirtual 92, 3) := by decide +kernel
theorem dM_least_5 : decode prog_11_method_30_code 5 = .ok (.ifCond .eq (7), 3) := by decide +kernel
theorem dM_least_8 : decode prog_11_method_30_code 8 = .ok (.iconst 0, 1) := by decide +kernel
theorem dM_least_9 : decode prog_11_method_30_code 9 = .ok (.goto (4), 3) := by decide +kernel
theorem dM_least_12 : decode prog_11_method_30_code 12 = .ok (.iconst 1, 1) := by decide +kernel
theorem dM_least_13 : decode prog_11_method_30_code 13 = .ok (.putfield 49, 3) := by decide +kernel
theorem dM_least_16 : decode prog_11_method_30_code 16 = .ok (.aload_n 0, 1) := by decide +kernel
theorem dM_least_17 : decode prog_11_method_30_code 17 = .ok (.getfield 49, 3) := by decide +kernel
theorem dM_least_20 : decode prog_11_method_30_code 20 = .ok (.ifCond .eq (5), 3) := by decide +kernel
theorem dM_least_23 : decode prog_11_method_30_code 23 = .ok (.iconst 0, 1) := by decide +kernel
theorem dM_least_24 : decode prog_11_method_30_code 24 = .ok (.ireturn, 1) := by decide +kernel
theorem dM_least_25 : decode prog_11_method_30_code 25 = .ok (.aload_n 0, 1) := by decide +kernel
theorem dM_least_26 : decode prog_11_method_30_code 26 = .ok (.invokevirtual 95, 3) := by decide +kernel
theorem dM_least_29 : decode prog_11_method_30_code 29 = .ok (.iconst 0, 1) := by decide +kernel
theorem dM_least_30 : decode prog_11_method_30_code 30 = .ok (.istore_n 1, 1) := by decide +kernel
theorem dM_least_31 : decode prog_11_method_30_code 31 = .ok (.sipush (600), 3) := by decide +kernel
theorem dM_least_34 : decode prog_11_method_30_code 34 = .ok (.istore_n 2, 1) := by decide +kernel
theorem dM_least_35 : decode prog_11_method_30_code 35 = .ok (.iload_n 1, 1) := by decide +kernel
theorem dM_least_36 : decode prog_11_method_30_code 36 = .ok (.iload_n 2, 1) := by decide +kernel
theorem dM_least_37 : decode prog_11_method_30_code 37 = .ok (.if_icmp .ge (31), 3) := by decide +kernel
theorem dM_least_40 : decode prog_11_method_30_code 40 = .ok (.iload_n 1, 1) := by decide +kernel
theorem dM_least_41 : decode prog_11_method_30_code 41 = .ok (.iload_n 2, 1) := by decide +kernel
theorem dM_least_42 : decode prog_11_method_30_code 42 = .ok (.iadd, 1) := by decide +kernel
theorem dM_least_43 : decode prog_11_method_30_code 43 = .ok (.iconst 2, 1) := by decide +kernel
theorem dM_least_44 : decode prog_11_method_30_code 44 = .ok (.idiv, 1) := by decide +kernel
theorem dM_least_45 : decode prog_11_method_30_code 45 = .ok (.istore_n 3, 1) := by decide +kernel
theorem dM_least_46 : decode prog_11_method_30_code 46 = .ok (.aload_n 0, 1) := by decide +kernel
theorem dM_least_47 : decode prog_11_method_30_code 47 = .ok (.iload_n 3, 1) := by decide +kernel
theorem dM_least_48 : decode prog_11_method_30_code 48 = .ok (.bipush (6), 2) := by decide +kernel
theorem dM_least_50 : decode prog_11_method_30_code 50 = .ok (.invokevirtual 110, 3) := by decide +kernel
theorem dM_least_53 : decode prog_11_method_30_code 53 = .ok (.ifCond .eq (8), 3) := by decide +kernel
theorem dM_least_56 : decode prog_11_method_30_code 56 = .ok (.iload_n 3, 1) := by decide +kernel
theorem dM_least_57 : decode prog_11_method_30_code 57 = .ok (.istore_n 2, 1) := by decide +kernel
theorem dM_least_58 : decode prog_11_method_30_code 58 = .ok (.goto (7), 3) := by decide +kernel
theorem dM_least_61 : decode prog_11_method_30_code 61 = .ok (.iload_n 3, 1) := by decide +kernel
theorem dM_least_62 : decode prog_11_method_30_code 62 = .ok (.iconst 1, 1) := by decide +kernel
theorem dM_least_63 : decode prog_11_method_30_code 63 = .ok (.iadd, 1) := by decide +kernel
theorem dM_least_64 : decode prog_11_method_30_code 64 = .ok (.istore_n 1, 1) := by decide +kernel
theorem dM_least_65 : decode prog_11_method_30_code 65 = .ok (.goto (-30), 3) := by decide +kernel
theorem dM_least_68 : decode prog_11_method_30_code 68 = .ok (.iload_n 1, 1) := by decide +kernel
theorem dM_least_69 : decode prog_11_method_30_code 69 = .ok (.ireturn, 1) := by decide +kernel
theorem dM_shared_0 : decode prog_11_method_31_code 0 = .ok (.aload_n 0, 1) := by decide +kernel
theorem dM_shared_1 : decode prog_11_method_31_code 1 = .ok (.aload_n 0, 1) := by decide +kernel
theorem dM_shared_2 : decode prog_11_method_31_code 2 = .ok (.invokevirtual 92, 3) := by decide +kernel
theorem dM_shared_5 : decode prog_11_method_31_code 5 = .ok (.ifCond .eq (7), 3) := by decide +kernel
theorem dM_shared_8 : decode prog_11_method_31_code 8 = .ok (.iconst 0, 1) := by decide +kernel
theorem dM_shared_9 : decode prog_11_method_31_code 9 = .ok (.goto (4), 3) := by decide +kernel
theorem dM_shared_12 : decode prog_11_method_31_code 12 = .ok (.iconst 1, 1) := by decide +kernel
theorem dM_shared_13 : decode prog_11_method_31_code 13 = .ok (.putfield 49, 3) := by decide +kernel
theorem dM_shared_16 : decode prog_11_method_31_code 16 = .ok (.iconst 0, 1) := by decide +kernel
theorem dM_shared_17 : decode prog_11_method_31_code 17 = .ok (.istore_n 1, 1) := by decide +kernel
theorem dM_shared_18 : decode prog_11_method_31_code 18 = .ok (.bipush (-3), 2) := by decide +kernel
theorem dM_shared_20 : decode prog_11_method_31_code 20 = .ok (.istore_n 2, 1) := by decide +kernel
theorem dM_shared_21 : decode prog_11_method_31_code 21 = .ok (.iload_n 2, 1) := by decide +kernel
theorem dM_shared_22 : decode prog_11_method_31_code 22 = .ok (.aload_n 0, 1) := by decide +kernel
theorem dM_shared_23 : decode prog_11_method_31_code 23 = .ok (.getfield 53, 3) := by decide +kernel
theorem dM_shared_26 : decode prog_11_method_31_code 26 = .ok (.if_icmp .gt (76), 3) := by decide +kernel
theorem dM_shared_29 : decode prog_11_method_31_code 29 = .ok (.aload_n 0, 1) := by decide +kernel
theorem dM_shared_30 : decode prog_11_method_31_code 30 = .ok (.getfield 49, 3) := by decide +kernel
theorem dM_shared_33 : decode prog_11_method_31_code 33 = .ok (.ifCond .ne (69), 3) := by decide +kernel
theorem dM_shared_36 : decode prog_11_method_31_code 36 = .ok (.iconst 0, 1) := by decide +kernel
theorem dM_shared_37 : decode prog_11_method_31_code 37 = .ok (.istore_n 3, 1) := by decide +kernel
theorem dM_shared_38 : decode prog_11_method_31_code 38 = .ok (.iconst 0, 1) := by decide +kernel
theorem dM_shared_39 : decode prog_11_method_31_code 39 = .ok (.istore 4, 2) := by decide +kernel
theorem dM_shared_41 : decode prog_11_method_31_code 41 = .ok (.iload 4, 2) := by decide +kernel
theorem dM_shared_43 : decode prog_11_method_31_code 43 = .ok (.bipush (27), 2) := by decide +kernel
theorem dM_shared_45 : decode prog_11_method_31_code 45 = .ok (.if_icmp .ge (47), 3) := by decide +kernel
theorem dM_shared_48 : decode prog_11_method_31_code 48 = .ok (.iload_n 2, 1) := by decide +kernel
theorem dM_shared_49 : decode prog_11_method_31_code 49 = .ok (.ifCond .eq (35), 3) := by decide +kernel
theorem dM_shared_52 : decode prog_11_method_31_code 52 = .ok (.aload_n 0, 1) := by decide +kernel
theorem dM_shared_53 : decode prog_11_method_31_code 53 = .ok (.getfield 16, 3) := by decide +kernel
theorem dM_shared_56 : decode prog_11_method_31_code 56 = .ok (.iload 4, 2) := by decide +kernel
theorem dM_shared_58 : decode prog_11_method_31_code 58 = .ok (.iaload, 1) := by decide +kernel
theorem dM_shared_59 : decode prog_11_method_31_code 59 = .ok (.iload_n 2, 1) := by decide +kernel
theorem dM_shared_60 : decode prog_11_method_31_code 60 = .ok (.if_icmp .ne (24), 3) := by decide +kernel
theorem dM_shared_63 : decode prog_11_method_31_code 63 = .ok (.aload_n 0, 1) := by decide +kernel
theorem dM_shared_64 : decode prog_11_method_31_code 64 = .ok (.getfield 19, 3) := by decide +kernel
theorem dM_shared_67 : decode prog_11_method_31_code 67 = .ok (.iload 4, 2) := by decide +kernel
theorem dM_shared_69 : decode prog_11_method_31_code 69 = .ok (.iaload, 1) := by decide +kernel
theorem dM_shared_70 : decode prog_11_method_31_code 70 = .ok (.iload_n 3, 1) := by decide +kernel
theorem dM_shared_71 : decode prog_11_method_31_code 71 = .ok (.if_icmp .le (13), 3) := by decide +kernel
theorem dM_shared_74 : decode prog_11_method_31_code 74 = .ok (.aload_n 0, 1) := by decide +kernel
theorem dM_shared_75 : decode prog_11_method_31_code 75 = .ok (.getfield 19, 3) := by decide +kernel
theorem dM_shared_78 : decode prog_11_method_31_code 78 = .ok (.iload 4, 2) := by decide +kernel
theorem dM_shared_80 : decode prog_11_method_31_code 80 = .ok (.iaload, 1) := by decide +kernel
theorem dM_shared_81 : decode prog_11_method_31_code 81 = .ok (.goto (4), 3) := by decide +kernel
theorem dM_shared_84 : decode prog_11_method_31_code 84 = .ok (.iload_n 3, 1) := by decide +kernel
theorem dM_shared_85 : decode prog_11_method_31_code 85 = .ok (.istore_n 3, 1) := by decide +kernel
theorem dM_shared_86 : decode prog_11_method_31_code 86 = .ok (.iinc 4 (1), 3) := by decide +kernel
theorem dM_shared_89 : decode prog_11_method_31_code 89 = .ok (.goto (-48), 3) := by decide +kernel
theorem dM_shared_92 : decode prog_11_method_31_code 92 = .ok (.iload_n 1, 1) := by decide +kernel
theorem dM_shared_93 : decode prog_11_method_31_code 93 = .ok (.iload_n 3, 1) := by decide +kernel
theorem dM_shared_94 : decode prog_11_method_31_code 94 = .ok (.iadd, 1) := by decide +kernel
theorem dM_shared_95 : decode prog_11_method_31_code 95 = .ok (.istore_n 1, 1) := by decide +kernel
theorem dM_shared_96 : decode prog_11_method_31_code 96 = .ok (.iinc 2 (1), 3) := by decide +kernel
theorem dM_shared_99 : decode prog_11_method_31_code 99 = .ok (.goto (-78), 3) := by decide +kernel
theorem dM_shared_102 : decode prog_11_method_31_code 102 = .ok (.iload_n 1, 1) := by decide +kernel
theorem dM_shared_103 : decode prog_11_method_31_code 103 = .ok (.ireturn, 1) := by decide +kernel
theorem dM_made_0 : decode prog_11_method_32_code 0 = .ok (.iload_n 0, 1) := by decide +kernel
theorem dM_made_1 : decode prog_11_method_32_code 1 = .ok (.tableswitch (102) 0 3 #[31, 33, 46, 74], 31) := by decide +kernel
theorem dM_made_32 : decode prog_11_method_32_code 32 = .ok (.iload_n 1, 1) := by decide +kernel
theorem dM_made_33 : decode prog_11_method_32_code 33 = .ok (.ireturn, 1) := by decide +kernel
theorem dM_made_34 : decode prog_11_method_32_code 34 = .ok (.iload_n 1, 1) := by decide +kernel
theorem dM_made_35 : decode prog_11_method_32_code 35 = .ok (.iconst 2, 1) := by decide +kernel
theorem dM_made_36 : decode prog_11_method_32_code 36 = .ok (.if_icmp .ne (7), 3) := by decide +kernel
theorem dM_made_39 : decode prog_11_method_32_code 39 = .ok (.iconst 2, 1) := by decide +kernel
theorem dM_made_40 : decode prog_11_method_32_code 40 = .ok (.goto (6), 3) := by decide +kernel
theorem dM_made_43 : decode prog_11_method_32_code 43 = .ok (.iconst 1, 1) := by decide +kernel
theorem dM_made_44 : decode prog_11_method_32_code 44 = .ok (.iload_n 1, 1) := by decide +kernel
theorem dM_made_45 : decode prog_11_method_32_code 45 = .ok (.isub, 1) := by decide +kernel
theorem dM_made_46 : decode prog_11_method_32_code 46 = .ok (.ireturn, 1) := by decide +kernel
theorem dM_made_47 : decode prog_11_method_32_code 47 = .ok (.iload_n 1, 1) := by decide +kernel
theorem dM_made_48 : decode prog_11_method_32_code 48 = .ok (.ifCond .eq (7), 3) := by decide +kernel
theorem dM_made_51 : decode prog_11_method_32_code 51 = .ok (.iload_n 2, 1) := by decide +kernel
theorem dM_made_52 : decode prog_11_method_32_code 52 = .ok (.ifCond .ne (7), 3) := by decide +kernel
theorem dM_made_55 : decode prog_11_method_32_code 55 = .ok (.iconst 0, 1) := by decide +kernel
theorem dM_made_56 : decode prog_11_method_32_code 56 = .ok (.goto (18), 3) := by decide +kernel
theorem dM_made_59 : decode prog_11_method_32_code 59 = .ok (.iload_n 1, 1) := by decide +kernel
theorem dM_made_60 : decode prog_11_method_32_code 60 = .ok (.iconst 1, 1) := by decide +kernel
theorem dM_made_61 : decode prog_11_method_32_code 61 = .ok (.if_icmp .ne (12), 3) := by decide +kernel
theorem dM_made_64 : decode prog_11_method_32_code 64 = .ok (.iload_n 2, 1) := by decide +kernel
theorem dM_made_65 : decode prog_11_method_32_code 65 = .ok (.iconst 1, 1) := by decide +kernel
theorem dM_made_66 : decode prog_11_method_32_code 66 = .ok (.if_icmp .ne (7), 3) := by decide +kernel
theorem dM_made_69 : decode prog_11_method_32_code 69 = .ok (.iconst 1, 1) := by decide +kernel
theorem dM_made_70 : decode prog_11_method_32_code 70 = .ok (.goto (4), 3) := by decide +kernel
theorem dM_made_73 : decode prog_11_method_32_code 73 = .ok (.iconst 2, 1) := by decide +kernel
theorem dM_made_74 : decode prog_11_method_32_code 74 = .ok (.ireturn, 1) := by decide +kernel
theorem dM_made_75 : decode prog_11_method_32_code 75 = .ok (.iload_n 1, 1) := by decide +kernel
theorem dM_made_76 : decode prog_11_method_32_code 76 = .ok (.iconst 1, 1) := by decide +kernel
theorem dM_made_77 : decode prog_11_method_32_code 77 = .ok (.if_icmp .eq (8), 3) := by decide +kernel
theorem dM_made_80 : decode prog_11_method_32_code 80 = .ok (.iload_n 2, 1) := by decide +kernel
theorem dM_made_81 : decode prog_11_method_32_code 81 = .ok (.iconst 1, 1) := by decide +kernel
theorem dM_made_82 : decode prog_11_method_32_code 82 = .ok (.if_icmp .ne (7), 3) := by decide +kernel
theorem dM_made_85 : decode prog_11_method_32_code 85 = .ok (.iconst 1, 1) := by decide +kernel
theorem dM_made_86 : decode prog_11_method_32_code 86 = .ok (.goto (16), 3) := by decide +kernel
theorem dM_made_89 : decode prog_11_method_32_code 89 = .ok (.iload_n 1, 1) := by decide +kernel
theorem dM_made_90 : decode prog_11_method_32_code 90 = .ok (.ifCond .ne (11), 3) := by decide +kernel
theorem dM_made_93 : decode prog_11_method_32_code 93 = .ok (.iload_n 2, 1) := by decide +kernel
theorem dM_made_94 : decode prog_11_method_32_code 94 = .ok (.ifCond .ne (7), 3) := by decide +kernel
theorem dM_made_97 : decode prog_11_method_32_code 97 = .ok (.iconst 0, 1) := by decide +kernel
theorem dM_made_98 : decode prog_11_method_32_code 98 = .ok (.goto (4), 3) := by decide +kernel
theorem dM_made_101 : decode prog_11_method_32_code 101 = .ok (.iconst 2, 1) := by decide +kernel
theorem dM_made_102 : decode prog_11_method_32_code 102 = .ok (.ireturn, 1) := by decide +kernel
theorem dM_made_103 : decode prog_11_method_32_code 103 = .ok (.iload_n 1, 1) := by decide +kernel
theorem dM_made_104 : decode prog_11_method_32_code 104 = .ok (.iconst 2, 1) := by decide +kernel
theorem dM_made_105 : decode prog_11_method_32_code 105 = .ok (.if_icmp .eq (8), 3) := by decide +kernel
theorem dM_made_108 : decode prog_11_method_32_code 108 = .ok (.iload_n 2, 1) := by decide +kernel
theorem dM_made_109 : decode prog_11_method_32_code 109 = .ok (.iconst 2, 1) := by decide +kernel
theorem dM_made_110 : decode prog_11_method_32_code 110 = .ok (.if_icmp .ne (7), 3) := by decide +kernel
theorem dM_made_113 : decode prog_11_method_32_code 113 = .ok (.iconst 2, 1) := by decide +kernel
theorem dM_made_114 : decode prog_11_method_32_code 114 = .ok (.goto (13), 3) := by decide +kernel
theorem dM_made_117 : decode prog_11_method_32_code 117 = .ok (.iload_n 1, 1) := by decide +kernel
theorem dM_made_118 : decode prog_11_method_32_code 118 = .ok (.iload_n 2, 1) := by decide +kernel
theorem dM_made_119 : decode prog_11_method_32_code 119 = .ok (.if_icmp .ne (7), 3) := by decide +kernel
theorem dM_made_122 : decode prog_11_method_32_code 122 = .ok (.iconst 0, 1) := by decide +kernel
theorem dM_made_123 : decode prog_11_method_32_code 123 = .ok (.goto (4), 3) := by decide +kernel
theorem dM_made_126 : decode prog_11_method_32_code 126 = .ok (.iconst 1, 1) := by decide +kernel
theorem dM_made_127 : decode prog_11_method_32_code 127 = .ok (.ireturn, 1) := by decide +kernel
theorem dM_push_0 : decode prog_11_method_33_code 0 = .ok (.aload_n 0, 1) := by decide +kernel
theorem dM_push_1 : decode prog_11_method_33_code 1 = .ok (.getfield 31, 3) := by decide +kernel
theorem dM_push_4 : decode prog_11_method_33_code 4 = .ok (.iload_n 1, 1) := by decide +kernel
theorem dM_push_5 : decode prog_11_method_33_code 5 = .ok (.iaload, 1) := by decide +kernel
theorem dM_push_6 : decode prog_11_method_33_code 6 = .ok (.istore_n 3, 1) := by decide +kernel
theorem dM_push_7 : decode prog_11_method_33_code 7 = .ok (.iload_n 3, 1) := by decide +kernel
theorem dM_push_8 : decode prog_11_method_33_code 8 = .ok (.ifCond .le (33), 3) := by decide +kernel
theorem dM_push_11 : decode prog_11_method_33_code 11 = .ok (.aload_n 0, 1) := by decide +kernel
theorem dM_push_12 : decode prog_11_method_33_code 12 = .ok (.getfield 28, 3) := by decide +kernel
theorem dM_push_15 : decode prog_11_method_33_code 15 = .ok (.bipush (40), 2) := by decide +kernel
theorem dM_push_17 : decode prog_11_method_33_code 17 = .ok (.iload_n 1, 1) := by decide +kernel
theorem dM_push_18 : decode prog_11_method_33_code 18 = .ok (.imul, 1) := by decide +kernel
theorem dM_push_19 : decode prog_11_method_33_code 19 = .ok (.iload_n 3, 1) := by decide +kernel
theorem dM_push_20 : decode prog_11_method_33_code 20 = .ok (.iadd, 1) := by decide +kernel
theorem dM_push_21 : decode prog_11_method_33_code 21 = .ok (.aload_n 0, 1) := by decide +kernel
theorem dM_push_22 : decode prog_11_method_33_code 22 = .ok (.getfield 28, 3) := by decide +kernel
theorem dM_push_25 : decode prog_11_method_33_code 25 = .ok (.bipush (40), 2) := by decide +kernel
theorem dM_push_27 : decode prog_11_method_33_code 27 = .ok (.iload_n 1, 1) := by decide +kernel
theorem dM_push_28 : decode prog_11_method_33_code 28 = .ok (.imul, 1) := by decide +kernel
theorem dM_push_29 : decode prog_11_method_33_code 29 = .ok (.iload_n 3, 1) := by decide +kernel
theorem dM_push_30 : decode prog_11_method_33_code 30 = .ok (.iadd, 1) := by decide +kernel
theorem dM_push_31 : decode prog_11_method_33_code 31 = .ok (.iconst 1, 1) := by decide +kernel
theorem dM_push_32 : decode prog_11_method_33_code 32 = .ok (.isub, 1) := by decide +kernel
theorem dM_push_33 : decode prog_11_method_33_code 33 = .ok (.iaload, 1) := by decide +kernel
theorem dM_push_34 : decode prog_11_method_33_code 34 = .ok (.iastore, 1) := by decide +kernel
theorem dM_push_35 : decode prog_11_method_33_code 35 = .ok (.iinc 3 (-1), 3) := by decide +kernel
theorem dM_push_38 : decode prog_11_method_33_code 38 = .ok (.goto (-31), 3) := by decide +kernel
theorem dM_push_41 : decode prog_11_method_33_code 41 = .ok (.aload_n 0, 1) := by decide +kernel
theorem dM_push_42 : decode prog_11_method_33_code 42 = .ok (.getfield 28, 3) := by decide +kernel
theorem dM_push_45 : decode prog_11_method_33_code 45 = .ok (.bipush (40), 2) := by decide +kernel
theorem dM_push_47 : decode prog_11_method_33_code 47 = .ok (.iload_n 1, 1) := by decide +kernel
theorem dM_push_48 : decode prog_11_method_33_code 48 = .ok (.imul, 1) := by decide +kernel
theorem dM_push_49 : decode prog_11_method_33_code 49 = .ok (.iload_n 2, 1) := by decide +kernel
theorem dM_push_50 : decode prog_11_method_33_code 50 = .ok (.iastore, 1) := by decide +kernel
theorem dM_push_51 : decode prog_11_method_33_code 51 = .ok (.aload_n 0, 1) := by decide +kernel
theorem dM_push_52 : decode prog_11_method_33_code 52 = .ok (.getfield 31, 3) := by decide +kernel
theorem dM_push_55 : decode prog_11_method_33_code 55 = .ok (.iload_n 1, 1) := by decide +kernel
theorem dM_push_56 : decode prog_11_method_33_code 56 = .ok (.dup2, 1) := by decide +kernel
theorem dM_push_57 : decode prog_11_method_33_code 57 = .ok (.iaload, 1) := by decide +kernel
theorem dM_push_58 : decode prog_11_method_33_code 58 = .ok (.iconst 1, 1) := by decide +kernel
theorem dM_push_59 : decode prog_11_method_33_code 59 = .ok (.iadd, 1) := by decide +kernel
theorem dM_push_60 : decode prog_11_method_33_code 60 = .ok (.iastore, 1) := by decide +kernel
theorem dM_push_61 : decode prog_11_method_33_code 61 = .ok (.return_, 1) := by decide +kernel
theorem dM_pull_0 : decode prog_11_method_34_code 0 = .ok (.aload_n 0, 1) := by decide +kernel
theorem dM_pull_1 : decode prog_11_method_34_code 1 = .ok (.getfield 28, 3) := by decide +kernel
theorem dM_pull_4 : decode prog_11_method_34_code 4 = .ok (.bipush (40), 2) := by decide +kernel
theorem dM_pull_6 : decode prog_11_method_34_code 6 = .ok (.iload_n 1, 1) := by decide +kernel
theorem dM_pull_7 : decode prog_11_method_34_code 7 = .ok (.imul, 1) := by decide +kernel
theorem dM_pull_8 : decode prog_11_method_34_code 8 = .ok (.iaload, 1) := by decide +kernel
theorem dM_pull_9 : decode prog_11_method_34_code 9 = .ok (.istore_n 2, 1) := by decide +kernel
theorem dM_pull_10 : decode prog_11_method_34_code 10 = .ok (.aload_n 0, 1) := by decide +kernel
theorem dM_pull_11 : decode prog_11_method_34_code 11 = .ok (.getfield 31, 3) := by decide +kernel
theorem dM_pull_14 : decode prog_11_method_34_code 14 = .ok (.iload_n 1, 1) := by decide +kernel
theorem dM_pull_15 : decode prog_11_method_34_code 15 = .ok (.dup2, 1) := by decide +kernel
theorem dM_pull_16 : decode prog_11_method_34_code 16 = .ok (.iaload, 1) := by decide +kernel
theorem dM_pull_17 : decode prog_11_method_34_code 17 = .ok (.iconst 1, 1) := by decide +kernel
theorem dM_pull_18 : decode prog_11_method_34_code 18 = .ok (.isub, 1) := by decide +kernel
theorem dM_pull_19 : decode prog_11_method_34_code 19 = .ok (.iastore, 1) := by decide +kernel
theorem dM_pull_20 : decode prog_11_method_34_code 20 = .ok (.iconst 0, 1) := by decide +kernel
theorem dM_pull_21 : decode prog_11_method_34_code 21 = .ok (.istore_n 3, 1) := by decide +kernel
theorem dM_pull_22 : decode prog_11_method_34_code 22 = .ok (.iload_n 3, 1) := by decide +kernel
theorem dM_pull_23 : decode prog_11_method_34_code 23 = .ok (.aload_n 0, 1) := by decide +kernel
theorem dM_pull_24 : decode prog_11_method_34_code 24 = .ok (.getfield 31, 3) := by decide +kernel
theorem dM_pull_27 : decode prog_11_method_34_code 27 = .ok (.iload_n 1, 1) := by decide +kernel
theorem dM_pull_28 : decode prog_11_method_34_code 28 = .ok (.iaload, 1) := by decide +kernel
theorem dM_pull_29 : decode prog_11_method_34_code 29 = .ok (.if_icmp .ge (33), 3) := by decide +kernel
theorem dM_pull_32 : decode prog_11_method_34_code 32 = .ok (.aload_n 0, 1) := by decide +kernel
theorem dM_pull_33 : decode prog_11_method_34_code 33 = .ok (.getfield 28, 3) := by decide +kernel
theorem dM_pull_36 : decode prog_11_method_34_code 36 = .ok (.bipush (40), 2) := by decide +kernel
theorem dM_pull_38 : decode prog_11_method_34_code 38 = .ok (.iload_n 1, 1) := by decide +kernel
theorem dM_pull_39 : decode prog_11_method_34_code 39 = .ok (.imul, 1) := by decide +kernel
theorem dM_pull_40 : decode prog_11_method_34_code 40 = .ok (.iload_n 3, 1) := by decide +kernel
theorem dM_pull_41 : decode prog_11_method_34_code 41 = .ok (.iadd, 1) := by decide +kernel
theorem dM_pull_42 : decode prog_11_method_34_code 42 = .ok (.aload_n 0, 1) := by decide +kernel
theorem dM_pull_43 : decode prog_11_method_34_code 43 = .ok (.getfield 28, 3) := by decide +kernel
theorem dM_pull_46 : decode prog_11_method_34_code 46 = .ok (.bipush (40), 2) := by decide +kernel
theorem dM_pull_48 : decode prog_11_method_34_code 48 = .ok (.iload_n 1, 1) := by decide +kernel
theorem dM_pull_49 : decode prog_11_method_34_code 49 = .ok (.imul, 1) := by decide +kernel
theorem dM_pull_50 : decode prog_11_method_34_code 50 = .ok (.iload_n 3, 1) := by decide +kernel
theorem dM_pull_51 : decode prog_11_method_34_code 51 = .ok (.iadd, 1) := by decide +kernel
theorem dM_pull_52 : decode prog_11_method_34_code 52 = .ok (.iconst 1, 1) := by decide +kernel
theorem dM_pull_53 : decode prog_11_method_34_code 53 = .ok (.iadd, 1) := by decide +kernel
theorem dM_pull_54 : decode prog_11_method_34_code 54 = .ok (.iaload, 1) := by decide +kernel
theorem dM_pull_55 : decode prog_11_method_34_code 55 = .ok (.iastore, 1) := by decide +kernel
theorem dM_pull_56 : decode prog_11_method_34_code 56 = .ok (.iinc 3 (1), 3) := by decide +kernel
theorem dM_pull_59 : decode prog_11_method_34_code 59 = .ok (.goto (-37), 3) := by decide +kernel
theorem dM_pull_62 : decode prog_11_method_34_code 62 = .ok (.iload_n 2, 1) := by decide +kernel
theorem dM_pull_63 : decode prog_11_method_34_code 63 = .ok (.ireturn, 1) := by decide +kernel
theorem dM_canForward_0 : decode prog_11_method_35_code 0 = .ok (.iconst 1, 1) := by decide +kernel
theorem dM_canForward_1 : decode prog_11_method_35_code 1 = .ok (.istore_n 2, 1) := by decide +kernel
theorem dM_canForward_2 : decode prog_11_method_35_code 2 = .ok (.iconst 0, 1) := by decide +kernel
theorem dM_canForward_3 : decode prog_11_method_35_code 3 = .ok (.istore_n 3, 1) := by decide +kernel
theorem dM_canForward_4 : decode prog_11_method_35_code 4 = .ok (.iload_n 3, 1) := by decide +kernel
theorem dM_canForward_5 : decode prog_11_method_35_code 5 = .ok (.aload_n 0, 1) := by decide +kernel
theorem dM_canForward_6 : decode prog_11_method_35_code 6 = .ok (.iload_n 1, 1) := by decide +kernel
theorem dM_canForward_7 : decode prog_11_method_35_code 7 = .ok (.invokevirtual 63, 3) := by decide +kernel
theorem dM_canForward_10 : decode prog_11_method_35_code 10 = .ok (.if_icmp .ge (34), 3) := by decide +kernel
theorem dM_canForward_13 : decode prog_11_method_35_code 13 = .ok (.iload_n 2, 1) := by decide +kernel
theorem dM_canForward_14 : decode prog_11_method_35_code 14 = .ok (.ifCond .eq (22), 3) := by decide +kernel
theorem dM_canForward_17 : decode prog_11_method_35_code 17 = .ok (.aload_n 0, 1) := by decide +kernel
theorem dM_canForward_18 : decode prog_11_method_35_code 18 = .ok (.getfield 31, 3) := by decide +kernel
theorem dM_canForward_21 : decode prog_11_method_35_code 21 = .ok (.iconst 2, 1) := by decide +kernel
theorem dM_canForward_22 : decode prog_11_method_35_code 22 = .ok (.iload_n 1, 1) := by decide +kernel
theorem dM_canForward_23 : decode prog_11_method_35_code 23 = .ok (.imul, 1) := by decide +kernel
theorem dM_canForward_24 : decode prog_11_method_35_code 24 = .ok (.iconst 2, 1) := by decide +kernel
theorem dM_canForward_25 : decode prog_11_method_35_code 25 = .ok (.isub, 1) := by decide +kernel
theorem dM_canForward_26 : decode prog_11_method_35_code 26 = .ok (.iload_n 3, 1) := by decide +kernel
theorem dM_canForward_27 : decode prog_11_method_35_code 27 = .ok (.iadd, 1) := by decide +kernel
theorem dM_canForward_28 : decode prog_11_method_35_code 28 = .ok (.iaload, 1) := by decide +kernel
theorem dM_canForward_29 : decode prog_11_method_35_code 29 = .ok (.ifCond .le (7), 3) := by decide +kernel
theorem dM_canForward_32 : decode prog_11_method_35_code 32 = .ok (.iconst 1, 1) := by decide +kernel
theorem dM_canForward_33 : decode prog_11_method_35_code 33 = .ok (.goto (4), 3) := by decide +kernel
theorem dM_canForward_36 : decode prog_11_method_35_code 36 = .ok (.iconst 0, 1) := by decide +kernel
theorem dM_canForward_37 : decode prog_11_method_35_code 37 = .ok (.istore_n 2, 1) := by decide +kernel
theorem dM_canForward_38 : decode prog_11_method_35_code 38 = .ok (.iinc 3 (1), 3) := by decide +kernel
theorem dM_canForward_41 : decode prog_11_method_35_code 41 = .ok (.goto (-37), 3) := by decide +kernel
theorem dM_canForward_44 : decode prog_11_method_35_code 44 = .ok (.iload_n 2, 1) := by decide +kernel
theorem dM_canForward_45 : decode prog_11_method_35_code 45 = .ok (.ireturn, 1) := by decide +kernel
theorem dM_forward_0 : decode prog_11_method_36_code 0 = .ok (.aload_n 0, 1) := by decide +kernel
theorem dM_forward_1 : decode prog_11_method_36_code 1 = .ok (.iconst 2, 1) := by decide +kernel
theorem dM_forward_2 : decode prog_11_method_36_code 2 = .ok (.iload_n 1, 1) := by decide +kernel
theorem dM_forward_3 : decode prog_11_method_36_code 3 = .ok (.imul, 1) := by decide +kernel
theorem dM_forward_4 : decode prog_11_method_36_code 4 = .ok (.iconst 2, 1) := by decide +kernel
theorem dM_forward_5 : decode prog_11_method_36_code 5 = .ok (.isub, 1) := by decide +kernel
theorem dM_forward_6 : decode prog_11_method_36_code 6 = .ok (.invokevirtual 113, 3) := by decide +kernel
theorem dM_forward_9 : decode prog_11_method_36_code 9 = .ok (.istore_n 2, 1) := by decide +kernel
theorem dM_forward_10 : decode prog_11_method_36_code 10 = .ok (.aload_n 0, 1) := by decide +kernel
theorem dM_forward_11 : decode prog_11_method_36_code 11 = .ok (.iload_n 1, 1) := by decide +kernel
theorem dM_forward_12 : decode prog_11_method_36_code 12 = .ok (.invokevirtual 63, 3) := by decide +kernel
theorem dM_forward_15 : decode prog_11_method_36_code 15 = .ok (.iconst 2, 1) := by decide +kernel
theorem dM_forward_16 : decode prog_11_method_36_code 16 = .ok (.if_icmp .ne (15), 3) := by decide +kernel
theorem dM_forward_19 : decode prog_11_method_36_code 19 = .ok (.aload_n 0, 1) := by decide +kernel
theorem dM_forward_20 : decode prog_11_method_36_code 20 = .ok (.iconst 2, 1) := by decide +kernel
theorem dM_forward_21 : decode prog_11_method_36_code 21 = .ok (.iload_n 1, 1) := by decide +kernel
theorem dM_forward_22 : decode prog_11_method_36_code 22 = .ok (.imul, 1) := by decide +kernel
theorem dM_forward_23 : decode prog_11_method_36_code 23 = .ok (.iconst 1, 1) := by decide +kernel
theorem dM_forward_24 : decode prog_11_method_36_code 24 = .ok (.isub, 1) := by decide +kernel
theorem dM_forward_25 : decode prog_11_method_36_code 25 = .ok (.invokevirtual 113, 3) := by decide +kernel
theorem dM_forward_28 : decode prog_11_method_36_code 28 = .ok (.goto (4), 3) := by decide +kernel
theorem dM_forward_31 : decode prog_11_method_36_code 31 = .ok (.iconst 2, 1) := by decide +kernel
theorem dM_forward_32 : decode prog_11_method_36_code 32 = .ok (.istore_n 3, 1) := by decide +kernel
theorem dM_forward_33 : decode prog_11_method_36_code 33 = .ok (.aload_n 0, 1) := by decide +kernel
theorem dM_forward_34 : decode prog_11_method_36_code 34 = .ok (.getfield 7, 3) := by decide +kernel
theorem dM_forward_37 : decode prog_11_method_36_code 37 = .ok (.iload_n 1, 1) := by decide +kernel
theorem dM_forward_38 : decode prog_11_method_36_code 38 = .ok (.iaload, 1) := by decide +kernel
theorem dM_forward_39 : decode prog_11_method_36_code 39 = .ok (.iload_n 2, 1) := by decide +kernel
theorem dM_forward_40 : decode prog_11_method_36_code 40 = .ok (.iload_n 3, 1) := by decide +kernel
theorem dM_forward_41 : decode prog_11_method_36_code 41 = .ok (.invokestatic 116, 3) := by decide +kernel
theorem dM_forward_44 : decode prog_11_method_36_code 44 = .ok (.istore 4, 2) := by decide +kernel
theorem dM_forward_46 : decode prog_11_method_36_code 46 = .ok (.iconst 0, 1) := by decide +kernel
theorem dM_forward_47 : decode prog_11_method_36_code 47 = .ok (.istore 5, 2) := by decide +kernel
theorem dM_forward_49 : decode prog_11_method_36_code 49 = .ok (.iload 5, 2) := by decide +kernel
theorem dM_forward_51 : decode prog_11_method_36_code 51 = .ok (.bipush (27), 2) := by decide +kernel
theorem dM_forward_53 : decode prog_11_method_36_code 53 = .ok (.if_icmp .ge (51), 3) := by decide +kernel
theorem dM_forward_56 : decode prog_11_method_36_code 56 = .ok (.aload_n 0, 1) := by decide +kernel
theorem dM_forward_57 : decode prog_11_method_36_code 57 = .ok (.getfield 16, 3) := by decide +kernel
theorem dM_forward_60 : decode prog_11_method_36_code 60 = .ok (.iload 5, 2) := by decide +kernel
theorem dM_forward_62 : decode prog_11_method_36_code 62 = .ok (.iaload, 1) := by decide +kernel
theorem dM_forward_63 : decode prog_11_method_36_code 63 = .ok (.iload_n 1, 1) := by decide +kernel
theorem dM_forward_64 : decode prog_11_method_36_code 64 = .ok (.if_icmp .ne (34), 3) := by decide +kernel
theorem dM_forward_67 : decode prog_11_method_36_code 67 = .ok (.aload_n 0, 1) := by decide +kernel
theorem dM_forward_68 : decode prog_11_method_36_code 68 = .ok (.getfield 28, 3) := by decide +kernel
theorem dM_forward_71 : decode prog_11_method_36_code 71 = .ok (.bipush (40), 2) := by decide +kernel
theorem dM_forward_73 : decode prog_11_method_36_code 73 = .ok (.iload 5, 2) := by decide +kernel
theorem dM_forward_75 : decode prog_11_method_36_code 75 = .ok (.imul, 1) := by decide +kernel
theorem dM_forward_76 : decode prog_11_method_36_code 76 = .ok (.aload_n 0, 1) := by decide +kernel
theorem dM_forward_77 : decode prog_11_method_36_code 77 = .ok (.getfield 31, 3) := by decide +kernel
theorem dM_forward_80 : decode prog_11_method_36_code 80 = .ok (.iload 5, 2) := by decide +kernel
theorem dM_forward_82 : decode prog_11_method_36_code 82 = .ok (.iaload, 1) := by decide +kernel
theorem dM_forward_83 : decode prog_11_method_36_code 83 = .ok (.iadd, 1) := by decide +kernel
theorem dM_forward_84 : decode prog_11_method_36_code 84 = .ok (.iload 4, 2) := by decide +kernel
theorem dM_forward_86 : decode prog_11_method_36_code 86 = .ok (.iastore, 1) := by decide +kernel
theorem dM_forward_87 : decode prog_11_method_36_code 87 = .ok (.aload_n 0, 1) := by decide +kernel
theorem dM_forward_88 : decode prog_11_method_36_code 88 = .ok (.getfield 31, 3) := by decide +kernel
theorem dM_forward_91 : decode prog_11_method_36_code 91 = .ok (.iload 5, 2) := by decide +kernel
theorem dM_forward_93 : decode prog_11_method_36_code 93 = .ok (.dup2, 1) := by decide +kernel
theorem dM_forward_94 : decode prog_11_method_36_code 94 = .ok (.iaload, 1) := by decide +kernel
theorem dM_forward_95 : decode prog_11_method_36_code 95 = .ok (.iconst 1, 1) := by decide +kernel
theorem dM_forward_96 : decode prog_11_method_36_code 96 = .ok (.iadd, 1) := by decide +kernel
theorem dM_forward_97 : decode prog_11_method_36_code 97 = .ok (.iastore, 1) := by decide +kernel
theorem dM_forward_98 : decode prog_11_method_36_code 98 = .ok (.iinc 5 (1), 3) := by decide +kernel
theorem dM_forward_101 : decode prog_11_method_36_code 101 = .ok (.goto (-52), 3) := by decide +kernel
theorem dM_forward_104 : decode prog_11_method_36_code 104 = .ok (.return_, 1) := by decide +kernel
theorem dM_canBackward_0 : decode prog_11_method_37_code 0 = .ok (.iconst 1, 1) := by decide +kernel
theorem dM_canBackward_1 : decode prog_11_method_37_code 1 = .ok (.istore_n 2, 1) := by decide +kernel
theorem dM_canBackward_2 : decode prog_11_method_37_code 2 = .ok (.iconst 0, 1) := by decide +kernel
theorem dM_canBackward_3 : decode prog_11_method_37_code 3 = .ok (.istore_n 3, 1) := by decide +kernel
theorem dM_canBackward_4 : decode prog_11_method_37_code 4 = .ok (.iload_n 3, 1) := by decide +kernel
theorem dM_canBackward_5 : decode prog_11_method_37_code 5 = .ok (.bipush (27), 2) := by decide +kernel
theorem dM_canBackward_7 : decode prog_11_method_37_code 7 = .ok (.if_icmp .ge (38), 3) := by decide +kernel
theorem dM_canBackward_10 : decode prog_11_method_37_code 10 = .ok (.iload_n 2, 1) := by decide +kernel
theorem dM_canBackward_11 : decode prog_11_method_37_code 11 = .ok (.ifCond .eq (26), 3) := by decide +kernel
theorem dM_canBackward_14 : decode prog_11_method_37_code 14 = .ok (.aload_n 0, 1) := by decide +kernel
theorem dM_canBackward_15 : decode prog_11_method_37_code 15 = .ok (.getfield 16, 3) := by decide +kernel
theorem dM_canBackward_18 : decode prog_11_method_37_code 18 = .ok (.iload_n 3, 1) := by decide +kernel
theorem dM_canBackward_19 : decode prog_11_method_37_code 19 = .ok (.iaload, 1) := by decide +kernel
theorem dM_canBackward_20 : decode prog_11_method_37_code 20 = .ok (.iload_n 1, 1) := by decide +kernel
theorem dM_canBackward_21 : decode prog_11_method_37_code 21 = .ok (.if_icmp .ne (12), 3) := by decide +kernel
theorem dM_canBackward_24 : decode prog_11_method_37_code 24 = .ok (.aload_n 0, 1) := by decide +kernel
theorem dM_canBackward_25 : decode prog_11_method_37_code 25 = .ok (.getfield 31, 3) := by decide +kernel
theorem dM_canBackward_28 : decode prog_11_method_37_code 28 = .ok (.iload_n 3, 1) := by decide +kernel
theorem dM_canBackward_29 : decode prog_11_method_37_code 29 = .ok (.iaload, 1) := by decide +kernel
theorem dM_canBackward_30 : decode prog_11_method_37_code 30 = .ok (.ifCond .le (7), 3) := by decide +kernel
theorem dM_canBackward_33 : decode prog_11_method_37_code 33 = .ok (.iconst 1, 1) := by decide +kernel
theorem dM_canBackward_34 : decode prog_11_method_37_code 34 = .ok (.goto (4), 3) := by decide +kernel
theorem dM_canBackward_37 : decode prog_11_method_37_code 37 = .ok (.iconst 0, 1) := by decide +kernel
theorem dM_canBackward_38 : decode prog_11_method_37_code 38 = .ok (.istore_n 2, 1) := by decide +kernel
theorem dM_canBackward_39 : decode prog_11_method_37_code 39 = .ok (.iinc 3 (1), 3) := by decide +kernel
theorem dM_canBackward_42 : decode prog_11_method_37_code 42 = .ok (.goto (-38), 3) := by decide +kernel
theorem dM_canBackward_45 : decode prog_11_method_37_code 45 = .ok (.iload_n 2, 1) := by decide +kernel
theorem dM_canBackward_46 : decode prog_11_method_37_code 46 = .ok (.ireturn, 1) := by decide +kernel
theorem dM_backward_0 : decode prog_11_method_38_code 0 = .ok (.iconst 0, 1) := by decide +kernel
theorem dM_backward_1 : decode prog_11_method_38_code 1 = .ok (.istore_n 2, 1) := by decide +kernel
theorem dM_backward_2 : decode prog_11_method_38_code 2 = .ok (.iconst 0, 1) := by decide +kernel
theorem dM_backward_3 : decode prog_11_method_38_code 3 = .ok (.istore_n 3, 1) := by decide +kernel
theorem dM_backward_4 : decode prog_11_method_38_code 4 = .ok (.iconst 0, 1) := by decide +kernel
theorem dM_backward_5 : decode prog_11_method_38_code 5 = .ok (.istore 4, 2) := by decide +kernel
theorem dM_backward_7 : decode prog_11_method_38_code 7 = .ok (.iload 4, 2) := by decide +kernel
theorem dM_backward_9 : decode prog_11_method_38_code 9 = .ok (.bipush (27), 2) := by decide +kernel
theorem dM_backward_11 : decode prog_11_method_38_code 11 = .ok (.if_icmp .ge (82), 3) := by decide +kernel
theorem dM_backward_14 : decode prog_11_method_38_code 14 = .ok (.aload_n 0, 1) := by decide +kernel
theorem dM_backward_15 : decode prog_11_method_38_code 15 = .ok (.getfield 16, 3) := by decide +kernel
theorem dM_backward_18 : decode prog_11_method_38_code 18 = .ok (.iload 4, 2) := by decide +kernel
theorem dM_backward_20 : decode prog_11_method_38_code 20 = .ok (.iaload, 1) := by decide +kernel
theorem dM_backward_21 : decode prog_11_method_38_code 21 = .ok (.iload_n 1, 1) := by decide +kernel
theorem dM_backward_22 : decode prog_11_method_38_code 22 = .ok (.if_icmp .ne (65), 3) := by decide +kernel
theorem dM_backward_25 : decode prog_11_method_38_code 25 = .ok (.aload_n 0, 1) := by decide +kernel
theorem dM_backward_26 : decode prog_11_method_38_code 26 = .ok (.getfield 31, 3) := by decide +kernel
theorem dM_backward_29 : decode prog_11_method_38_code 29 = .ok (.iload 4, 2) := by decide +kernel
theorem dM_backward_31 : decode prog_11_method_38_code 31 = .ok (.dup2, 1) := by decide +kernel
theorem dM_backward_32 : decode prog_11_method_38_code 32 = .ok (.iaload, 1) := by decide +kernel
theorem dM_backward_33 : decode prog_11_method_38_code 33 = .ok (.iconst 1, 1) := by decide +kernel
theorem dM_backward_34 : decode prog_11_method_38_code 34 = .ok (.isub, 1) := by decide +kernel
theorem dM_backward_35 : decode prog_11_method_38_code 35 = .ok (.iastore, 1) := by decide +kernel
theorem dM_backward_36 : decode prog_11_method_38_code 36 = .ok (.aload_n 0, 1) := by decide +kernel
theorem dM_backward_37 : decode prog_11_method_38_code 37 = .ok (.getfield 28, 3) := by decide +kernel
theorem dM_backward_40 : decode prog_11_method_38_code 40 = .ok (.bipush (40), 2) := by decide +kernel
theorem dM_backward_42 : decode prog_11_method_38_code 42 = .ok (.iload 4, 2) := by decide +kernel
theorem dM_backward_44 : decode prog_11_method_38_code 44 = .ok (.imul, 1) := by decide +kernel
theorem dM_backward_45 : decode prog_11_method_38_code 45 = .ok (.aload_n 0, 1) := by decide +kernel
theorem dM_backward_46 : decode prog_11_method_38_code 46 = .ok (.getfield 31, 3) := by decide +kernel
theorem dM_backward_49 : decode prog_11_method_38_code 49 = .ok (.iload 4, 2) := by decide +kernel
theorem dM_backward_51 : decode prog_11_method_38_code 51 = .ok (.iaload, 1) := by decide +kernel
theorem dM_backward_52 : decode prog_11_method_38_code 52 = .ok (.iadd, 1) := by decide +kernel
theorem dM_backward_53 : decode prog_11_method_38_code 53 = .ok (.iaload, 1) := by decide +kernel
theorem dM_backward_54 : decode prog_11_method_38_code 54 = .ok (.istore 5, 2) := by decide +kernel
theorem dM_backward_56 : decode prog_11_method_38_code 56 = .ok (.iload_n 2, 1) := by decide +kernel
theorem dM_backward_57 : decode prog_11_method_38_code 57 = .ok (.ifCond .ne (8), 3) := by decide +kernel
theorem dM_backward_60 : decode prog_11_method_38_code 60 = .ok (.iload 5, 2) := by decide +kernel
theorem dM_backward_62 : decode prog_11_method_38_code 62 = .ok (.ifCond .ne (7), 3) := by decide +kernel
theorem dM_backward_65 : decode prog_11_method_38_code 65 = .ok (.iconst 1, 1) := by decide +kernel
theorem dM_backward_66 : decode prog_11_method_38_code 66 = .ok (.goto (4), 3) := by decide +kernel
theorem dM_backward_69 : decode prog_11_method_38_code 69 = .ok (.iconst 0, 1) := by decide +kernel
theorem dM_backward_70 : decode prog_11_method_38_code 70 = .ok (.istore_n 2, 1) := by decide +kernel
theorem dM_backward_71 : decode prog_11_method_38_code 71 = .ok (.iload_n 3, 1) := by decide +kernel
theorem dM_backward_72 : decode prog_11_method_38_code 72 = .ok (.ifCond .ne (9), 3) := by decide +kernel
theorem dM_backward_75 : decode prog_11_method_38_code 75 = .ok (.iload 5, 2) := by decide +kernel
theorem dM_backward_77 : decode prog_11_method_38_code 77 = .ok (.iconst 1, 1) := by decide +kernel
theorem dM_backward_78 : decode prog_11_method_38_code 78 = .ok (.if_icmp .ne (7), 3) := by decide +kernel
theorem dM_backward_81 : decode prog_11_method_38_code 81 = .ok (.iconst 1, 1) := by decide +kernel
theorem dM_backward_82 : decode prog_11_method_38_code 82 = .ok (.goto (4), 3) := by decide +kernel
theorem dM_backward_85 : decode prog_11_method_38_code 85 = .ok (.iconst 0, 1) := by decide +kernel
theorem dM_backward_86 : decode prog_11_method_38_code 86 = .ok (.istore_n 3, 1) := by decide +kernel
theorem dM_backward_87 : decode prog_11_method_38_code 87 = .ok (.iinc 4 (1), 3) := by decide +kernel
theorem dM_backward_90 : decode prog_11_method_38_code 90 = .ok (.goto (-83), 3) := by decide +kernel
theorem dM_backward_93 : decode prog_11_method_38_code 93 = .ok (.iload_n 3, 1) := by decide +kernel
theorem dM_backward_94 : decode prog_11_method_38_code 94 = .ok (.ifCond .eq (7), 3) := by decide +kernel
theorem dM_backward_97 : decode prog_11_method_38_code 97 = .ok (.iconst 1, 1) := by decide +kernel
theorem dM_backward_98 : decode prog_11_method_38_code 98 = .ok (.goto (12), 3) := by decide +kernel
theorem dM_backward_101 : decode prog_11_method_38_code 101 = .ok (.iload_n 2, 1) := by decide +kernel
theorem dM_backward_102 : decode prog_11_method_38_code 102 = .ok (.ifCond .eq (7), 3) := by decide +kernel
theorem dM_backward_105 : decode prog_11_method_38_code 105 = .ok (.iconst 0, 1) := by decide +kernel
theorem dM_backward_106 : decode prog_11_method_38_code 106 = .ok (.goto (4), 3) := by decide +kernel
theorem dM_backward_109 : decode prog_11_method_38_code 109 = .ok (.iconst 2, 1) := by decide +kernel
theorem dM_backward_110 : decode prog_11_method_38_code 110 = .ok (.istore 4, 2) := by decide +kernel
theorem dM_backward_112 : decode prog_11_method_38_code 112 = .ok (.aload_n 0, 1) := by decide +kernel
theorem dM_backward_113 : decode prog_11_method_38_code 113 = .ok (.getfield 7, 3) := by decide +kernel
theorem dM_backward_116 : decode prog_11_method_38_code 116 = .ok (.iload_n 1, 1) := by decide +kernel
theorem dM_backward_117 : decode prog_11_method_38_code 117 = .ok (.iaload, 1) := by decide +kernel
theorem dM_backward_118 : decode prog_11_method_38_code 118 = .ok (.istore 5, 2) := by decide +kernel
theorem dM_backward_120 : decode prog_11_method_38_code 120 = .ok (.iload 4, 2) := by decide +kernel
theorem dM_backward_122 : decode prog_11_method_38_code 122 = .ok (.iconst 2, 1) := by decide +kernel
theorem dM_backward_123 : decode prog_11_method_38_code 123 = .ok (.if_icmp .eq (9), 3) := by decide +kernel
theorem dM_backward_126 : decode prog_11_method_38_code 126 = .ok (.iload 5, 2) := by decide +kernel
theorem dM_backward_128 : decode prog_11_method_38_code 128 = .ok (.iconst 1, 1) := by decide +kernel
theorem dM_backward_129 : decode prog_11_method_38_code 129 = .ok (.if_icmp .eq (8), 3) := by decide +kernel
theorem dM_backward_132 : decode prog_11_method_38_code 132 = .ok (.iload 4, 2) := by decide +kernel
theorem dM_backward_134 : decode prog_11_method_38_code 134 = .ok (.goto (7), 3) := by decide +kernel
theorem dM_backward_137 : decode prog_11_method_38_code 137 = .ok (.iconst 1, 1) := by decide +kernel
theorem dM_backward_138 : decode prog_11_method_38_code 138 = .ok (.iload 4, 2) := by decide +kernel
theorem dM_backward_140 : decode prog_11_method_38_code 140 = .ok (.isub, 1) := by decide +kernel
theorem dM_backward_141 : decode prog_11_method_38_code 141 = .ok (.istore 6, 2) := by decide +kernel
theorem dM_backward_143 : decode prog_11_method_38_code 143 = .ok (.iload 5, 2) := by decide +kernel
theorem dM_backward_145 : decode prog_11_method_38_code 145 = .ok (.iconst 2, 1) := by decide +kernel
theorem dM_backward_146 : decode prog_11_method_38_code 146 = .ok (.if_icmp .ne (9), 3) := by decide +kernel
theorem dM_backward_149 : decode prog_11_method_38_code 149 = .ok (.iload 4, 2) := by decide +kernel
theorem dM_backward_151 : decode prog_11_method_38_code 151 = .ok (.iconst 1, 1) := by decide +kernel
theorem dM_backward_152 : decode prog_11_method_38_code 152 = .ok (.if_icmp .eq (14), 3) := by decide +kernel
theorem dM_backward_155 : decode prog_11_method_38_code 155 = .ok (.iload 5, 2) := by decide +kernel
theorem dM_backward_157 : decode prog_11_method_38_code 157 = .ok (.iconst 3, 1) := by decide +kernel
theorem dM_backward_158 : decode prog_11_method_38_code 158 = .ok (.if_icmp .ne (12), 3) := by decide +kernel
theorem dM_backward_161 : decode prog_11_method_38_code 161 = .ok (.iload 4, 2) := by decide +kernel
theorem dM_backward_163 : decode prog_11_method_38_code 163 = .ok (.ifCond .ne (7), 3) := by decide +kernel
theorem dM_backward_166 : decode prog_11_method_38_code 166 = .ok (.iconst 1, 1) := by decide +kernel
theorem dM_backward_167 : decode prog_11_method_38_code 167 = .ok (.goto (4), 3) := by decide +kernel
theorem dM_backward_170 : decode prog_11_method_38_code 170 = .ok (.iconst 0, 1) := by decide +kernel
theorem dM_backward_171 : decode prog_11_method_38_code 171 = .ok (.istore 7, 2) := by decide +kernel
theorem dM_backward_173 : decode prog_11_method_38_code 173 = .ok (.iload 4, 2) := by decide +kernel
theorem dM_backward_175 : decode prog_11_method_38_code 175 = .ok (.iconst 2, 1) := by decide +kernel
theorem dM_backward_176 : decode prog_11_method_38_code 176 = .ok (.if_icmp .ne (7), 3) := by decide +kernel
theorem dM_backward_179 : decode prog_11_method_38_code 179 = .ok (.iconst 2, 1) := by decide +kernel
theorem dM_backward_180 : decode prog_11_method_38_code 180 = .ok (.goto (24), 3) := by decide +kernel
theorem dM_backward_183 : decode prog_11_method_38_code 183 = .ok (.iload 7, 2) := by decide +kernel
theorem dM_backward_185 : decode prog_11_method_38_code 185 = .ok (.ifCond .eq (8), 3) := by decide +kernel
theorem dM_backward_188 : decode prog_11_method_38_code 188 = .ok (.iload 4, 2) := by decide +kernel
theorem dM_backward_190 : decode prog_11_method_38_code 190 = .ok (.goto (14), 3) := by decide +kernel
theorem dM_backward_193 : decode prog_11_method_38_code 193 = .ok (.iload 5, 2) := by decide +kernel
theorem dM_backward_195 : decode prog_11_method_38_code 195 = .ok (.iconst 4, 1) := by decide +kernel
theorem dM_backward_196 : decode prog_11_method_38_code 196 = .ok (.if_icmp .ne (7), 3) := by decide +kernel
theorem dM_backward_199 : decode prog_11_method_38_code 199 = .ok (.iconst 0, 1) := by decide +kernel
theorem dM_backward_200 : decode prog_11_method_38_code 200 = .ok (.goto (4), 3) := by decide +kernel
theorem dM_backward_203 : decode prog_11_method_38_code 203 = .ok (.iconst 2, 1) := by decide +kernel
theorem dM_backward_204 : decode prog_11_method_38_code 204 = .ok (.istore 8, 2) := by decide +kernel
theorem dM_backward_206 : decode prog_11_method_38_code 206 = .ok (.aload_n 0, 1) := by decide +kernel
theorem dM_backward_207 : decode prog_11_method_38_code 207 = .ok (.iconst 2, 1) := by decide +kernel
theorem dM_backward_208 : decode prog_11_method_38_code 208 = .ok (.iload_n 1, 1) := by decide +kernel
theorem dM_backward_209 : decode prog_11_method_38_code 209 = .ok (.imul, 1) := by decide +kernel
theorem dM_backward_210 : decode prog_11_method_38_code 210 = .ok (.iconst 2, 1) := by decide +kernel
theorem dM_backward_211 : decode prog_11_method_38_code 211 = .ok (.isub, 1) := by decide +kernel
theorem dM_backward_212 : decode prog_11_method_38_code 212 = .ok (.iload 6, 2) := by decide +kernel
theorem dM_backward_214 : decode prog_11_method_38_code 214 = .ok (.invokevirtual 120, 3) := by decide +kernel
theorem dM_backward_217 : decode prog_11_method_38_code 217 = .ok (.aload_n 0, 1) := by decide +kernel
theorem dM_backward_218 : decode prog_11_method_38_code 218 = .ok (.iload_n 1, 1) := by decide +kernel
theorem dM_backward_219 : decode prog_11_method_38_code 219 = .ok (.invokevirtual 63, 3) := by decide +kernel
theorem dM_backward_222 : decode prog_11_method_38_code 222 = .ok (.iconst 2, 1) := by decide +kernel
theorem dM_backward_223 : decode prog_11_method_38_code 223 = .ok (.if_icmp .ne (14), 3) := by decide +kernel
theorem dM_backward_226 : decode prog_11_method_38_code 226 = .ok (.aload_n 0, 1) := by decide +kernel
theorem dM_backward_227 : decode prog_11_method_38_code 227 = .ok (.iconst 2, 1) := by decide +kernel
theorem dM_backward_228 : decode prog_11_method_38_code 228 = .ok (.iload_n 1, 1) := by decide +kernel
theorem dM_backward_229 : decode prog_11_method_38_code 229 = .ok (.imul, 1) := by decide +kernel
theorem dM_backward_230 : decode prog_11_method_38_code 230 = .ok (.iconst 1, 1) := by decide +kernel
theorem dM_backward_231 : decode prog_11_method_38_code 231 = .ok (.isub, 1) := by decide +kernel
theorem dM_backward_232 : decode prog_11_method_38_code 232 = .ok (.iload 8, 2) := by decide +kernel
theorem dM_backward_234 : decode prog_11_method_38_code 234 = .ok (.invokevirtual 120, 3) := by decide +kernel
theorem dM_backward_237 : decode prog_11_method_38_code 237 = .ok (.iload_n 2, 1) := by decide +kernel
theorem dM_backward_238 : decode prog_11_method_38_code 238 = .ok (.ifCond .eq (7), 3) := by decide +kernel
theorem dM_backward_241 : decode prog_11_method_38_code 241 = .ok (.iload_n 3, 1) := by decide +kernel
theorem dM_backward_242 : decode prog_11_method_38_code 242 = .ok (.ifCond .ne (7), 3) := by decide +kernel
theorem dM_backward_245 : decode prog_11_method_38_code 245 = .ok (.iconst 1, 1) := by decide +kernel
theorem dM_backward_246 : decode prog_11_method_38_code 246 = .ok (.goto (4), 3) := by decide +kernel
theorem dM_backward_249 : decode prog_11_method_38_code 249 = .ok (.iconst 0, 1) := by decide +kernel
theorem dM_backward_250 : decode prog_11_method_38_code 250 = .ok (.ireturn, 1) := by decide +kernel
theorem dM_follow_0 : decode prog_11_method_39_code 0 = .ok (.iconst 0, 1) := by decide +kernel
theorem dM_follow_1 : decode prog_11_method_39_code 1 = .ok (.istore_n 1, 1) := by decide +kernel
theorem dM_follow_2 : decode prog_11_method_39_code 2 = .ok (.iload_n 1, 1) := by decide +kernel
theorem dM_follow_3 : decode prog_11_method_39_code 3 = .ok (.bipush (27), 2) := by decide +kernel
theorem dM_follow_5 : decode prog_11_method_39_code 5 = .ok (.if_icmp .ge (21), 3) := by decide +kernel
theorem dM_follow_8 : decode prog_11_method_39_code 8 = .ok (.aload_n 0, 1) := by decide +kernel
theorem dM_follow_9 : decode prog_11_method_39_code 9 = .ok (.getfield 31, 3) := by decide +kernel
theorem dM_follow_12 : decode prog_11_method_39_code 12 = .ok (.iload_n 1, 1) := by decide +kernel
theorem dM_follow_13 : decode prog_11_method_39_code 13 = .ok (.aload_n 0, 1) := by decide +kernel
theorem dM_follow_14 : decode prog_11_method_39_code 14 = .ok (.getfield 19, 3) := by decide +kernel
theorem dM_follow_17 : decode prog_11_method_39_code 17 = .ok (.iload_n 1, 1) := by decide +kernel
theorem dM_follow_18 : decode prog_11_method_39_code 18 = .ok (.iaload, 1) := by decide +kernel
theorem dM_follow_19 : decode prog_11_method_39_code 19 = .ok (.iastore, 1) := by decide +kernel
theorem dM_follow_20 : decode prog_11_method_39_code 20 = .ok (.iinc 1 (1), 3) := by decide +kernel
theorem dM_follow_23 : decode prog_11_method_39_code 23 = .ok (.goto (-21), 3) := by decide +kernel
theorem dM_follow_26 : decode prog_11_method_39_code 26 = .ok (.iconst 0, 1) := by decide +kernel
theorem dM_follow_27 : decode prog_11_method_39_code 27 = .ok (.istore_n 1, 1) := by decide +kernel
theorem dM_follow_28 : decode prog_11_method_39_code 28 = .ok (.iload_n 1, 1) := by decide +kernel
theorem dM_follow_29 : decode prog_11_method_39_code 29 = .ok (.sipush (1080), 3) := by decide +kernel
theorem dM_follow_32 : decode prog_11_method_39_code 32 = .ok (.if_icmp .ge (21), 3) := by decide +kernel
theorem dM_follow_35 : decode prog_11_method_39_code 35 = .ok (.aload_n 0, 1) := by decide +kernel
theorem dM_follow_36 : decode prog_11_method_39_code 36 = .ok (.getfield 28, 3) := by decide +kernel
theorem dM_follow_39 : decode prog_11_method_39_code 39 = .ok (.iload_n 1, 1) := by decide +kernel
theorem dM_follow_40 : decode prog_11_method_39_code 40 = .ok (.aload_n 0, 1) := by decide +kernel
theorem dM_follow_41 : decode prog_11_method_39_code 41 = .ok (.getfield 22, 3) := by decide +kernel
theorem dM_follow_44 : decode prog_11_method_39_code 44 = .ok (.iload_n 1, 1) := by decide +kernel
theorem dM_follow_45 : decode prog_11_method_39_code 45 = .ok (.iaload, 1) := by decide +kernel
theorem dM_follow_46 : decode prog_11_method_39_code 46 = .ok (.iastore, 1) := by decide +kernel
theorem dM_follow_47 : decode prog_11_method_39_code 47 = .ok (.iinc 1 (1), 3) := by decide +kernel
theorem dM_follow_50 : decode prog_11_method_39_code 50 = .ok (.goto (-22), 3) := by decide +kernel
theorem dM_follow_53 : decode prog_11_method_39_code 53 = .ok (.iconst 1, 1) := by decide +kernel
theorem dM_follow_54 : decode prog_11_method_39_code 54 = .ok (.istore_n 1, 1) := by decide +kernel
theorem dM_follow_55 : decode prog_11_method_39_code 55 = .ok (.iload_n 1, 1) := by decide +kernel
theorem dM_follow_56 : decode prog_11_method_39_code 56 = .ok (.aload_n 0, 1) := by decide +kernel
theorem dM_follow_57 : decode prog_11_method_39_code 57 = .ok (.getfield 53, 3) := by decide +kernel
theorem dM_follow_60 : decode prog_11_method_39_code 60 = .ok (.if_icmp .gt (21), 3) := by decide +kernel
theorem dM_follow_63 : decode prog_11_method_39_code 63 = .ok (.aload_n 0, 1) := by decide +kernel
theorem dM_follow_64 : decode prog_11_method_39_code 64 = .ok (.getfield 40, 3) := by decide +kernel
theorem dM_follow_67 : decode prog_11_method_39_code 67 = .ok (.iload_n 1, 1) := by decide +kernel
theorem dM_follow_68 : decode prog_11_method_39_code 68 = .ok (.aload_n 0, 1) := by decide +kernel
theorem dM_follow_69 : decode prog_11_method_39_code 69 = .ok (.getfield 37, 3) := by decide +kernel
theorem dM_follow_72 : decode prog_11_method_39_code 72 = .ok (.iload_n 1, 1) := by decide +kernel
theorem dM_follow_73 : decode prog_11_method_39_code 73 = .ok (.iaload, 1) := by decide +kernel
theorem dM_follow_74 : decode prog_11_method_39_code 74 = .ok (.iastore, 1) := by decide +kernel
theorem dM_follow_75 : decode prog_11_method_39_code 75 = .ok (.iinc 1 (1), 3) := by decide +kernel
theorem dM_follow_78 : decode prog_11_method_39_code 78 = .ok (.goto (-23), 3) := by decide +kernel
theorem dM_follow_81 : decode prog_11_method_39_code 81 = .ok (.iconst 1, 1) := by decide +kernel
theorem dM_follow_82 : decode prog_11_method_39_code 82 = .ok (.istore_n 1, 1) := by decide +kernel
theorem dM_follow_83 : decode prog_11_method_39_code 83 = .ok (.iload_n 1, 1) := by decide +kernel
theorem dM_follow_84 : decode prog_11_method_39_code 84 = .ok (.ifCond .eq (100), 3) := by decide +kernel
theorem dM_follow_87 : decode prog_11_method_39_code 87 = .ok (.iconst 0, 1) := by decide +kernel
theorem dM_follow_88 : decode prog_11_method_39_code 88 = .ok (.istore_n 1, 1) := by decide +kernel
theorem dM_follow_89 : decode prog_11_method_39_code 89 = .ok (.iconst 1, 1) := by decide +kernel
theorem dM_follow_90 : decode prog_11_method_39_code 90 = .ok (.istore_n 2, 1) := by decide +kernel
theorem dM_follow_91 : decode prog_11_method_39_code 91 = .ok (.iload_n 2, 1) := by decide +kernel
theorem dM_follow_92 : decode prog_11_method_39_code 92 = .ok (.aload_n 0, 1) := by decide +kernel
theorem dM_follow_93 : decode prog_11_method_39_code 93 = .ok (.getfield 53, 3) := by decide +kernel
theorem dM_follow_96 : decode prog_11_method_39_code 96 = .ok (.if_icmp .gt (85), 3) := by decide +kernel
theorem dM_follow_99 : decode prog_11_method_39_code 99 = .ok (.aload_n 0, 1) := by decide +kernel
theorem dM_follow_100 : decode prog_11_method_39_code 100 = .ok (.getfield 40, 3) := by decide +kernel
theorem dM_follow_103 : decode prog_11_method_39_code 103 = .ok (.iload_n 2, 1) := by decide +kernel
theorem dM_follow_104 : decode prog_11_method_39_code 104 = .ok (.iaload, 1) := by decide +kernel
theorem dM_follow_105 : decode prog_11_method_39_code 105 = .ok (.ifCond .ge (31), 3) := by decide +kernel
theorem dM_follow_108 : decode prog_11_method_39_code 108 = .ok (.aload_n 0, 1) := by decide +kernel
theorem dM_follow_109 : decode prog_11_method_39_code 109 = .ok (.iload_n 2, 1) := by decide +kernel
theorem dM_follow_110 : decode prog_11_method_39_code 110 = .ok (.invokevirtual 124, 3) := by decide +kernel
theorem dM_follow_113 : decode prog_11_method_39_code 113 = .ok (.ifCond .eq (23), 3) := by decide +kernel
theorem dM_follow_116 : decode prog_11_method_39_code 116 = .ok (.aload_n 0, 1) := by decide +kernel
theorem dM_follow_117 : decode prog_11_method_39_code 117 = .ok (.iload_n 2, 1) := by decide +kernel
theorem dM_follow_118 : decode prog_11_method_39_code 118 = .ok (.invokevirtual 127, 3) := by decide +kernel
theorem dM_follow_121 : decode prog_11_method_39_code 121 = .ok (.aload_n 0, 1) := by decide +kernel
theorem dM_follow_122 : decode prog_11_method_39_code 122 = .ok (.getfield 40, 3) := by decide +kernel
theorem dM_follow_125 : decode prog_11_method_39_code 125 = .ok (.iload_n 2, 1) := by decide +kernel
theorem dM_follow_126 : decode prog_11_method_39_code 126 = .ok (.dup2, 1) := by decide +kernel
theorem dM_follow_127 : decode prog_11_method_39_code 127 = .ok (.iaload, 1) := by decide +kernel
theorem dM_follow_128 : decode prog_11_method_39_code 128 = .ok (.iconst 1, 1) := by decide +kernel
theorem dM_follow_129 : decode prog_11_method_39_code 129 = .ok (.iadd, 1) := by decide +kernel
theorem dM_follow_130 : decode prog_11_method_39_code 130 = .ok (.iastore, 1) := by decide +kernel
theorem dM_follow_131 : decode prog_11_method_39_code 131 = .ok (.iconst 1, 1) := by decide +kernel
theorem dM_follow_132 : decode prog_11_method_39_code 132 = .ok (.istore_n 1, 1) := by decide +kernel
theorem dM_follow_133 : decode prog_11_method_39_code 133 = .ok (.goto (42), 3) := by decide +kernel
theorem dM_follow_136 : decode prog_11_method_39_code 136 = .ok (.aload_n 0, 1) := by decide +kernel
theorem dM_follow_137 : decode prog_11_method_39_code 137 = .ok (.getfield 40, 3) := by decide +kernel
theorem dM_follow_140 : decode prog_11_method_39_code 140 = .ok (.iload_n 2, 1) := by decide +kernel
theorem dM_follow_141 : decode prog_11_method_39_code 141 = .ok (.iaload, 1) := by decide +kernel
theorem dM_follow_142 : decode prog_11_method_39_code 142 = .ok (.ifCond .le (33), 3) := by decide +kernel
theorem dM_follow_145 : decode prog_11_method_39_code 145 = .ok (.aload_n 0, 1) := by decide +kernel
theorem dM_follow_146 : decode prog_11_method_39_code 146 = .ok (.iload_n 2, 1) := by decide +kernel
theorem dM_follow_147 : decode prog_11_method_39_code 147 = .ok (.invokevirtual 131, 3) := by decide +kernel
theorem dM_follow_150 : decode prog_11_method_39_code 150 = .ok (.ifCond .eq (25), 3) := by decide +kernel
theorem dM_follow_153 : decode prog_11_method_39_code 153 = .ok (.aload_n 0, 1) := by decide +kernel
theorem dM_follow_154 : decode prog_11_method_39_code 154 = .ok (.iload_n 2, 1) := by decide +kernel
theorem dM_follow_155 : decode prog_11_method_39_code 155 = .ok (.invokevirtual 134, 3) := by decide +kernel
theorem dM_follow_158 : decode prog_11_method_39_code 158 = .ok (.ifCond .ne (5), 3) := by decide +kernel
theorem dM_follow_161 : decode prog_11_method_39_code 161 = .ok (.iconst 0, 1) := by decide +kernel
theorem dM_follow_162 : decode prog_11_method_39_code 162 = .ok (.ireturn, 1) := by decide +kernel
theorem dM_follow_163 : decode prog_11_method_39_code 163 = .ok (.aload_n 0, 1) := by decide +kernel
theorem dM_follow_164 : decode prog_11_method_39_code 164 = .ok (.getfield 40, 3) := by decide +kernel
theorem dM_follow_167 : decode prog_11_method_39_code 167 = .ok (.iload_n 2, 1) := by decide +kernel
theorem dM_follow_168 : decode prog_11_method_39_code 168 = .ok (.dup2, 1) := by decide +kernel
theorem dM_follow_169 : decode prog_11_method_39_code 169 = .ok (.iaload, 1) := by decide +kernel
theorem dM_follow_170 : decode prog_11_method_39_code 170 = .ok (.iconst 1, 1) := by decide +kernel
theorem dM_follow_171 : decode prog_11_method_39_code 171 = .ok (.isub, 1) := by decide +kernel
theorem dM_follow_172 : decode prog_11_method_39_code 172 = .ok (.iastore, 1) := by decide +kernel
theorem dM_follow_173 : decode prog_11_method_39_code 173 = .ok (.iconst 1, 1) := by decide +kernel
theorem dM_follow_174 : decode prog_11_method_39_code 174 = .ok (.istore_n 1, 1) := by decide +kernel
theorem dM_follow_175 : decode prog_11_method_39_code 175 = .ok (.iinc 2 (1), 3) := by decide +kernel
theorem dM_follow_178 : decode prog_11_method_39_code 178 = .ok (.goto (-87), 3) := by decide +kernel
theorem dM_follow_181 : decode prog_11_method_39_code 181 = .ok (.goto (-98), 3) := by decide +kernel
theorem dM_follow_184 : decode prog_11_method_39_code 184 = .ok (.iconst 1, 1) := by decide +kernel
theorem dM_follow_185 : decode prog_11_method_39_code 185 = .ok (.ireturn, 1) := by decide +kernel
theorem dM_retime_0 : decode prog_11_method_40_code 0 = .ok (.aload_n 0, 1) := by decide +kernel
theorem dM_retime_1 : decode prog_11_method_40_code 1 = .ok (.aload_n 0, 1) := by decide +kernel
theorem dM_retime_2 : decode prog_11_method_40_code 2 = .ok (.invokevirtual 92, 3) := by decide +kernel
theorem dM_retime_5 : decode prog_11_method_40_code 5 = .ok (.ifCond .ne (7), 3) := by decide +kernel
theorem dM_retime_8 : decode prog_11_method_40_code 8 = .ok (.iconst 1, 1) := by decide +kernel
theorem dM_retime_9 : decode prog_11_method_40_code 9 = .ok (.goto (19), 3) := by decide +kernel
theorem dM_retime_12 : decode prog_11_method_40_code 12 = .ok (.iload_n 1, 1) := by decide +kernel
theorem dM_retime_13 : decode prog_11_method_40_code 13 = .ok (.ifCond .lt (10), 3) := by decide +kernel
theorem dM_retime_16 : decode prog_11_method_40_code 16 = .ok (.iload_n 1, 1) := by decide +kernel
theorem dM_retime_17 : decode prog_11_method_40_code 17 = .ok (.sipush (600), 3) := by decide +kernel
theorem dM_retime_20 : decode prog_11_method_40_code 20 = .ok (.if_icmp .le (7), 3) := by decide +kernel
theorem dM_retime_23 : decode prog_11_method_40_code 23 = .ok (.iconst 2, 1) := by decide +kernel
theorem dM_retime_24 : decode prog_11_method_40_code 24 = .ok (.goto (4), 3) := by decide +kernel
theorem dM_retime_27 : decode prog_11_method_40_code 27 = .ok (.iconst 0, 1) := by decide +kernel
theorem dM_retime_28 : decode prog_11_method_40_code 28 = .ok (.putfield 49, 3) := by decide +kernel
theorem dM_retime_31 : decode prog_11_method_40_code 31 = .ok (.aload_n 0, 1) := by decide +kernel
theorem dM_retime_32 : decode prog_11_method_40_code 32 = .ok (.getfield 49, 3) := by decide +kernel
theorem dM_retime_35 : decode prog_11_method_40_code 35 = .ok (.ifCond .eq (5), 3) := by decide +kernel
theorem dM_retime_38 : decode prog_11_method_40_code 38 = .ok (.iconst 0, 1) := by decide +kernel
theorem dM_retime_39 : decode prog_11_method_40_code 39 = .ok (.ireturn, 1) := by decide +kernel
theorem dM_retime_40 : decode prog_11_method_40_code 40 = .ok (.aload_n 0, 1) := by decide +kernel
theorem dM_retime_41 : decode prog_11_method_40_code 41 = .ok (.invokevirtual 95, 3) := by decide +kernel
theorem dM_retime_44 : decode prog_11_method_40_code 44 = .ok (.aload_n 0, 1) := by decide +kernel
theorem dM_retime_45 : decode prog_11_method_40_code 45 = .ok (.iload_n 1, 1) := by decide +kernel
theorem dM_retime_46 : decode prog_11_method_40_code 46 = .ok (.bipush (6), 2) := by decide +kernel
theorem dM_retime_48 : decode prog_11_method_40_code 48 = .ok (.invokevirtual 110, 3) := by decide +kernel
theorem dM_retime_51 : decode prog_11_method_40_code 51 = .ok (.ifCond .ne (5), 3) := by decide +kernel
theorem dM_retime_54 : decode prog_11_method_40_code 54 = .ok (.iconst 0, 1) := by decide +kernel
theorem dM_retime_55 : decode prog_11_method_40_code 55 = .ok (.ireturn, 1) := by decide +kernel
theorem dM_retime_56 : decode prog_11_method_40_code 56 = .ok (.iconst 2, 1) := by decide +kernel
theorem dM_retime_57 : decode prog_11_method_40_code 57 = .ok (.istore_n 2, 1) := by decide +kernel
theorem dM_retime_58 : decode prog_11_method_40_code 58 = .ok (.aload_n 0, 1) := by decide +kernel
theorem dM_retime_59 : decode prog_11_method_40_code 59 = .ok (.invokevirtual 137, 3) := by decide +kernel
theorem dM_retime_62 : decode prog_11_method_40_code 62 = .ok (.ifCond .ne (31), 3) := by decide +kernel
theorem dM_retime_65 : decode prog_11_method_40_code 65 = .ok (.iconst 1, 1) := by decide +kernel
theorem dM_retime_66 : decode prog_11_method_40_code 66 = .ok (.istore_n 2, 1) := by decide +kernel
theorem dM_retime_67 : decode prog_11_method_40_code 67 = .ok (.aload_n 0, 1) := by decide +kernel
theorem dM_retime_68 : decode prog_11_method_40_code 68 = .ok (.iload_n 1, 1) := by decide +kernel
theorem dM_retime_69 : decode prog_11_method_40_code 69 = .ok (.iconst 0, 1) := by decide +kernel
theorem dM_retime_70 : decode prog_11_method_40_code 70 = .ok (.invokevirtual 110, 3) := by decide +kernel
theorem dM_retime_73 : decode prog_11_method_40_code 73 = .ok (.ifCond .ne (5), 3) := by decide +kernel
theorem dM_retime_76 : decode prog_11_method_40_code 76 = .ok (.iconst 0, 1) := by decide +kernel
theorem dM_retime_77 : decode prog_11_method_40_code 77 = .ok (.ireturn, 1) := by decide +kernel
theorem dM_retime_78 : decode prog_11_method_40_code 78 = .ok (.aload_n 0, 1) := by decide +kernel
theorem dM_retime_79 : decode prog_11_method_40_code 79 = .ok (.invokevirtual 137, 3) := by decide +kernel
theorem dM_retime_82 : decode prog_11_method_40_code 82 = .ok (.istore_n 3, 1) := by decide +kernel
theorem dM_retime_83 : decode prog_11_method_40_code 83 = .ok (.iload_n 3, 1) := by decide +kernel
theorem dM_retime_84 : decode prog_11_method_40_code 84 = .ok (.ifCond .eq (7), 3) := by decide +kernel
theorem dM_retime_87 : decode prog_11_method_40_code 87 = .ok (.iconst 1, 1) := by decide +kernel
theorem dM_retime_88 : decode prog_11_method_40_code 88 = .ok (.goto (4), 3) := by decide +kernel
theorem dM_retime_91 : decode prog_11_method_40_code 91 = .ok (.iconst 0, 1) := by decide +kernel
theorem dM_retime_92 : decode prog_11_method_40_code 92 = .ok (.istore_n 2, 1) := by decide +kernel
theorem dM_retime_93 : decode prog_11_method_40_code 93 = .ok (.iconst 0, 1) := by decide +kernel
theorem dM_retime_94 : decode prog_11_method_40_code 94 = .ok (.istore_n 3, 1) := by decide +kernel
theorem dM_retime_95 : decode prog_11_method_40_code 95 = .ok (.iload_n 3, 1) := by decide +kernel
theorem dM_retime_96 : decode prog_11_method_40_code 96 = .ok (.bipush (27), 2) := by decide +kernel
theorem dM_retime_98 : decode prog_11_method_40_code 98 = .ok (.if_icmp .ge (21), 3) := by decide +kernel
theorem dM_retime_101 : decode prog_11_method_40_code 101 = .ok (.aload_n 0, 1) := by decide +kernel
theorem dM_retime_102 : decode prog_11_method_40_code 102 = .ok (.getfield 19, 3) := by decide +kernel
theorem dM_retime_105 : decode prog_11_method_40_code 105 = .ok (.iload_n 3, 1) := by decide +kernel
theorem dM_retime_106 : decode prog_11_method_40_code 106 = .ok (.aload_n 0, 1) := by decide +kernel
theorem dM_retime_107 : decode prog_11_method_40_code 107 = .ok (.getfield 31, 3) := by decide +kernel
theorem dM_retime_110 : decode prog_11_method_40_code 110 = .ok (.iload_n 3, 1) := by decide +kernel
theorem dM_retime_111 : decode prog_11_method_40_code 111 = .ok (.iaload, 1) := by decide +kernel
theorem dM_retime_112 : decode prog_11_method_40_code 112 = .ok (.iastore, 1) := by decide +kernel
theorem dM_retime_113 : decode prog_11_method_40_code 113 = .ok (.iinc 3 (1), 3) := by decide +kernel
theorem dM_retime_116 : decode prog_11_method_40_code 116 = .ok (.goto (-21), 3) := by decide +kernel
theorem dM_retime_119 : decode prog_11_method_40_code 119 = .ok (.iconst 0, 1) := by decide +kernel
theorem dM_retime_120 : decode prog_11_method_40_code 120 = .ok (.istore_n 3, 1) := by decide +kernel
theorem dM_retime_121 : decode prog_11_method_40_code 121 = .ok (.iload_n 3, 1) := by decide +kernel
theorem dM_retime_122 : decode prog_11_method_40_code 122 = .ok (.sipush (1080), 3) := by decide +kernel
theorem dM_retime_125 : decode prog_11_method_40_code 125 = .ok (.if_icmp .ge (21), 3) := by decide +kernel
theorem dM_retime_128 : decode prog_11_method_40_code 128 = .ok (.aload_n 0, 1) := by decide +kernel
theorem dM_retime_129 : decode prog_11_method_40_code 129 = .ok (.getfield 22, 3) := by decide +kernel
theorem dM_retime_132 : decode prog_11_method_40_code 132 = .ok (.iload_n 3, 1) := by decide +kernel
theorem dM_retime_133 : decode prog_11_method_40_code 133 = .ok (.aload_n 0, 1) := by decide +kernel
theorem dM_retime_134 : decode prog_11_method_40_code 134 = .ok (.getfield 28, 3) := by decide +kernel
theorem dM_retime_137 : decode prog_11_method_40_code 137 = .ok (.iload_n 3, 1) := by decide +kernel
theorem dM_retime_138 : decode prog_11_method_40_code 138 = .ok (.iaload, 1) := by decide +kernel
theorem dM_retime_139 : decode prog_11_method_40_code 139 = .ok (.iastore, 1) := by decide +kernel
theorem dM_retime_140 : decode prog_11_method_40_code 140 = .ok (.iinc 3 (1), 3) := by decide +kernel
theorem dM_retime_143 : decode prog_11_method_40_code 143 = .ok (.goto (-22), 3) := by decide +kernel
theorem dM_retime_146 : decode prog_11_method_40_code 146 = .ok (.iconst 1, 1) := by decide +kernel
theorem dM_retime_147 : decode prog_11_method_40_code 147 = .ok (.istore_n 3, 1) := by decide +kernel
theorem dM_retime_148 : decode prog_11_method_40_code 148 = .ok (.iload_n 3, 1) := by decide +kernel
theorem dM_retime_149 : decode prog_11_method_40_code 149 = .ok (.aload_n 0, 1) := by decide +kernel
theorem dM_retime_150 : decode prog_11_method_40_code 150 = .ok (.getfield 53, 3) := by decide +kernel
theorem dM_retime_153 : decode prog_11_method_40_code 153 = .ok (.if_icmp .gt (21), 3) := by decide +kernel
theorem dM_retime_156 : decode prog_11_method_40_code 156 = .ok (.aload_n 0, 1) := by decide +kernel
theorem dM_retime_157 : decode prog_11_method_40_code 157 = .ok (.getfield 34, 3) := by decide +kernel
theorem dM_retime_160 : decode prog_11_method_40_code 160 = .ok (.iload_n 3, 1) := by decide +kernel
theorem dM_retime_161 : decode prog_11_method_40_code 161 = .ok (.aload_n 0, 1) := by decide +kernel
theorem dM_retime_162 : decode prog_11_method_40_code 162 = .ok (.getfield 37, 3) := by decide +kernel
theorem dM_retime_165 : decode prog_11_method_40_code 165 = .ok (.iload_n 3, 1) := by decide +kernel
theorem dM_retime_166 : decode prog_11_method_40_code 166 = .ok (.iaload, 1) := by decide +kernel
theorem dM_retime_167 : decode prog_11_method_40_code 167 = .ok (.iastore, 1) := by decide +kernel
theorem dM_retime_168 : decode prog_11_method_40_code 168 = .ok (.iinc 3 (1), 3) := by decide +kernel
theorem dM_retime_171 : decode prog_11_method_40_code 171 = .ok (.goto (-23), 3) := by decide +kernel
theorem dM_retime_174 : decode prog_11_method_40_code 174 = .ok (.aload_n 0, 1) := by decide +kernel
theorem dM_retime_175 : decode prog_11_method_40_code 175 = .ok (.invokevirtual 67, 3) := by decide +kernel
theorem dM_retime_178 : decode prog_11_method_40_code 178 = .ok (.iload_n 2, 1) := by decide +kernel
theorem dM_retime_179 : decode prog_11_method_40_code 179 = .ok (.ireturn, 1) := by decide +kernel
theorem dM_label_0 : decode prog_11_method_41_code 0 = .ok (.aload_n 0, 1) := by decide +kernel
theorem dM_label_1 : decode prog_11_method_41_code 1 = .ok (.aload_n 0, 1) := by decide +kernel
theorem dM_label_2 : decode prog_11_method_41_code 2 = .ok (.iload_n 1, 1) := by decide +kernel
theorem dM_label_3 : decode prog_11_method_41_code 3 = .ok (.invokevirtual 60, 3) := by decide +kernel
theorem dM_label_6 : decode prog_11_method_41_code 6 = .ok (.ifCond .eq (7), 3) := by decide +kernel
theorem dM_label_9 : decode prog_11_method_41_code 9 = .ok (.iconst 0, 1) := by decide +kernel
theorem dM_label_10 : decode prog_11_method_41_code 10 = .ok (.goto (4), 3) := by decide +kernel
theorem dM_label_13 : decode prog_11_method_41_code 13 = .ok (.iconst 1, 1) := by decide +kernel
theorem dM_label_14 : decode prog_11_method_41_code 14 = .ok (.putfield 49, 3) := by decide +kernel
theorem dM_label_17 : decode prog_11_method_41_code 17 = .ok (.aload_n 0, 1) := by decide +kernel
theorem dM_label_18 : decode prog_11_method_41_code 18 = .ok (.getfield 49, 3) := by decide +kernel
theorem dM_label_21 : decode prog_11_method_41_code 21 = .ok (.ifCond .ne (12), 3) := by decide +kernel
theorem dM_label_24 : decode prog_11_method_41_code 24 = .ok (.aload_n 0, 1) := by decide +kernel
theorem dM_label_25 : decode prog_11_method_41_code 25 = .ok (.getfield 34, 3) := by decide +kernel
theorem dM_label_28 : decode prog_11_method_41_code 28 = .ok (.iload_n 1, 1) := by decide +kernel
theorem dM_label_29 : decode prog_11_method_41_code 29 = .ok (.iaload, 1) := by decide +kernel
theorem dM_label_30 : decode prog_11_method_41_code 30 = .ok (.goto (4), 3) := by decide +kernel
theorem dM_label_33 : decode prog_11_method_41_code 33 = .ok (.iconst 0, 1) := by decide +kernel
theorem dM_label_34 : decode prog_11_method_41_code 34 = .ok (.ireturn, 1) := by decide +kernel
theorem dM_input_0 : decode prog_11_method_42_code 0 = .ok (.iload_n 1, 1) := by decide +kernel
theorem dM_input_1 : decode prog_11_method_42_code 1 = .ok (.iconst (-1), 1) := by decide +kernel
theorem dM_input_2 : decode prog_11_method_42_code 2 = .ok (.if_icmp .ne (7), 3) := by decide +kernel
theorem dM_input_5 : decode prog_11_method_42_code 5 = .ok (.iload_n 2, 1) := by decide +kernel
theorem dM_input_6 : decode prog_11_method_42_code 6 = .ok (.goto (30), 3) := by decide +kernel
theorem dM_input_9 : decode prog_11_method_42_code 9 = .ok (.iload_n 1, 1) := by decide +kernel
theorem dM_input_10 : decode prog_11_method_42_code 10 = .ok (.bipush (-2), 2) := by decide +kernel
theorem dM_input_12 : decode prog_11_method_42_code 12 = .ok (.if_icmp .ne (7), 3) := by decide +kernel
theorem dM_input_15 : decode prog_11_method_42_code 15 = .ok (.iload_n 3, 1) := by decide +kernel
theorem dM_input_16 : decode prog_11_method_42_code 16 = .ok (.goto (20), 3) := by decide +kernel
theorem dM_input_19 : decode prog_11_method_42_code 19 = .ok (.iload_n 1, 1) := by decide +kernel
theorem dM_input_20 : decode prog_11_method_42_code 20 = .ok (.bipush (-3), 2) := by decide +kernel
theorem dM_input_22 : decode prog_11_method_42_code 22 = .ok (.if_icmp .ne (8), 3) := by decide +kernel
theorem dM_input_25 : decode prog_11_method_42_code 25 = .ok (.iload 4, 2) := by decide +kernel
theorem dM_input_27 : decode prog_11_method_42_code 27 = .ok (.goto (9), 3) := by decide +kernel
theorem dM_input_30 : decode prog_11_method_42_code 30 = .ok (.aload_n 0, 1) := by decide +kernel
theorem dM_input_31 : decode prog_11_method_42_code 31 = .ok (.getfield 46, 3) := by decide +kernel
theorem dM_input_34 : decode prog_11_method_42_code 34 = .ok (.iload_n 1, 1) := by decide +kernel
theorem dM_input_35 : decode prog_11_method_42_code 35 = .ok (.iaload, 1) := by decide +kernel
theorem dM_input_36 : decode prog_11_method_42_code 36 = .ok (.ireturn, 1) := by decide +kernel
theorem dM_tick_0 : decode prog_11_method_43_code 0 = .ok (.iload_n 1, 1) := by decide +kernel
theorem dM_tick_1 : decode prog_11_method_43_code 1 = .ok (.ifCond .lt (30), 3) := by decide +kernel
theorem dM_tick_4 : decode prog_11_method_43_code 4 = .ok (.iload_n 1, 1) := by decide +kernel
theorem dM_tick_5 : decode prog_11_method_43_code 5 = .ok (.iconst 2, 1) := by decide +kernel
theorem dM_tick_6 : decode prog_11_method_43_code 6 = .ok (.if_icmp .gt (25), 3) := by decide +kernel
theorem dM_tick_9 : decode prog_11_method_43_code 9 = .ok (.iload_n 2, 1) := by decide +kernel
theorem dM_tick_10 : decode prog_11_method_43_code 10 = .ok (.ifCond .lt (21), 3) := by decide +kernel
theorem dM_tick_13 : decode prog_11_method_43_code 13 = .ok (.iload_n 2, 1) := by decide +kernel
theorem dM_tick_14 : decode prog_11_method_43_code 14 = .ok (.iconst 2, 1) := by decide +kernel
theorem dM_tick_15 : decode prog_11_method_43_code 15 = .ok (.if_icmp .gt (16), 3) := by decide +kernel
theorem dM_tick_18 : decode prog_11_method_43_code 18 = .ok (.iload_n 3, 1) := by decide +kernel
theorem dM_tick_19 : decode prog_11_method_43_code 19 = .ok (.ifCond .lt (12), 3) := by decide +kernel
theorem dM_tick_22 : decode prog_11_method_43_code 22 = .ok (.iload_n 3, 1) := by decide +kernel
theorem dM_tick_23 : decode prog_11_method_43_code 23 = .ok (.iconst 2, 1) := by decide +kernel
theorem dM_tick_24 : decode prog_11_method_43_code 24 = .ok (.if_icmp .gt (7), 3) := by decide +kernel
theorem dM_tick_27 : decode prog_11_method_43_code 27 = .ok (.iconst 1, 1) := by decide +kernel
theorem dM_tick_28 : decode prog_11_method_43_code 28 = .ok (.goto (4), 3) := by decide +kernel
theorem dM_tick_31 : decode prog_11_method_43_code 31 = .ok (.iconst 0, 1) := by decide +kernel
theorem dM_tick_32 : decode prog_11_method_43_code 32 = .ok (.istore 4, 2) := by decide +kernel
theorem dM_tick_34 : decode prog_11_method_43_code 34 = .ok (.aload_n 0, 1) := by decide +kernel
theorem dM_tick_35 : decode prog_11_method_43_code 35 = .ok (.aload_n 0, 1) := by decide +kernel
theorem dM_tick_36 : decode prog_11_method_43_code 36 = .ok (.invokevirtual 92, 3) := by decide +kernel
theorem dM_tick_39 : decode prog_11_method_43_code 39 = .ok (.ifCond .ne (7), 3) := by decide +kernel
theorem dM_tick_42 : decode prog_11_method_43_code 42 = .ok (.iconst 1, 1) := by decide +kernel
theorem dM_tick_43 : decode prog_11_method_43_code 43 = .ok (.goto (13), 3) := by decide +kernel
theorem dM_tick_46 : decode prog_11_method_43_code 46 = .ok (.iload 4, 2) := by decide +kernel
theorem dM_tick_48 : decode prog_11_method_43_code 48 = .ok (.ifCond .ne (7), 3) := by decide +kernel
theorem dM_tick_51 : decode prog_11_method_43_code 51 = .ok (.iconst 2, 1) := by decide +kernel
theorem dM_tick_52 : decode prog_11_method_43_code 52 = .ok (.goto (4), 3) := by decide +kernel
theorem dM_tick_55 : decode prog_11_method_43_code 55 = .ok (.iconst 0, 1) := by decide +kernel
theorem dM_tick_56 : decode prog_11_method_43_code 56 = .ok (.putfield 49, 3) := by decide +kernel
theorem dM_tick_59 : decode prog_11_method_43_code 59 = .ok (.aload_n 0, 1) := by decide +kernel
theorem dM_tick_60 : decode prog_11_method_43_code 60 = .ok (.getfield 49, 3) := by decide +kernel
theorem dM_tick_63 : decode prog_11_method_43_code 63 = .ok (.ifCond .eq (5), 3) := by decide +kernel
theorem dM_tick_66 : decode prog_11_method_43_code 66 = .ok (.iconst 0, 1) := by decide +kernel
theorem dM_tick_67 : decode prog_11_method_43_code 67 = .ok (.ireturn, 1) := by decide +kernel
theorem dM_tick_68 : decode prog_11_method_43_code 68 = .ok (.iconst 1, 1) := by decide +kernel
theorem dM_tick_69 : decode prog_11_method_43_code 69 = .ok (.istore 5, 2) := by decide +kernel
theorem dM_tick_71 : decode prog_11_method_43_code 71 = .ok (.iload 5, 2) := by decide +kernel
theorem dM_tick_73 : decode prog_11_method_43_code 73 = .ok (.aload_n 0, 1) := by decide +kernel
theorem dM_tick_74 : decode prog_11_method_43_code 74 = .ok (.getfield 53, 3) := by decide +kernel
theorem dM_tick_77 : decode prog_11_method_43_code 77 = .ok (.if_icmp .gt (17), 3) := by decide +kernel
theorem dM_tick_80 : decode prog_11_method_43_code 80 = .ok (.aload_n 0, 1) := by decide +kernel
theorem dM_tick_81 : decode prog_11_method_43_code 81 = .ok (.getfield 46, 3) := by decide +kernel
theorem dM_tick_84 : decode prog_11_method_43_code 84 = .ok (.iload 5, 2) := by decide +kernel
theorem dM_tick_86 : decode prog_11_method_43_code 86 = .ok (.iconst 2, 1) := by decide +kernel
theorem dM_tick_87 : decode prog_11_method_43_code 87 = .ok (.iastore, 1) := by decide +kernel
theorem dM_tick_88 : decode prog_11_method_43_code 88 = .ok (.iinc 5 (1), 3) := by decide +kernel
theorem dM_tick_91 : decode prog_11_method_43_code 91 = .ok (.goto (-20), 3) := by decide +kernel
theorem dM_tick_94 : decode prog_11_method_43_code 94 = .ok (.iconst 0, 1) := by decide +kernel
theorem dM_tick_95 : decode prog_11_method_43_code 95 = .ok (.istore 5, 2) := by decide +kernel
theorem dM_tick_97 : decode prog_11_method_43_code 97 = .ok (.iload 5, 2) := by decide +kernel
theorem dM_tick_99 : decode prog_11_method_43_code 99 = .ok (.aload_n 0, 1) := by decide +kernel
theorem dM_tick_100 : decode prog_11_method_43_code 100 = .ok (.getfield 53, 3) := by decide +kernel
theorem dM_tick_103 : decode prog_11_method_43_code 103 = .ok (.if_icmp .ge (155), 3) := by decide +kernel
theorem dM_tick_106 : decode prog_11_method_43_code 106 = .ok (.iconst 1, 1) := by decide +kernel
theorem dM_tick_107 : decode prog_11_method_43_code 107 = .ok (.istore 6, 2) := by decide +kernel
theorem dM_tick_109 : decode prog_11_method_43_code 109 = .ok (.iload 6, 2) := by decide +kernel
theorem dM_tick_111 : decode prog_11_method_43_code 111 = .ok (.aload_n 0, 1) := by decide +kernel
theorem dM_tick_112 : decode prog_11_method_43_code 112 = .ok (.getfield 53, 3) := by decide +kernel
theorem dM_tick_115 : decode prog_11_method_43_code 115 = .ok (.if_icmp .gt (137), 3) := by decide +kernel
theorem dM_tick_118 : decode prog_11_method_43_code 118 = .ok (.iconst 2, 1) := by decide +kernel
theorem dM_tick_119 : decode prog_11_method_43_code 119 = .ok (.iload 6, 2) := by decide +kernel
theorem dM_tick_121 : decode prog_11_method_43_code 121 = .ok (.imul, 1) := by decide +kernel
theorem dM_tick_122 : decode prog_11_method_43_code 122 = .ok (.iconst 2, 1) := by decide +kernel
theorem dM_tick_123 : decode prog_11_method_43_code 123 = .ok (.isub, 1) := by decide +kernel
theorem dM_tick_124 : decode prog_11_method_43_code 124 = .ok (.istore 7, 2) := by decide +kernel
theorem dM_tick_126 : decode prog_11_method_43_code 126 = .ok (.aload_n 0, 1) := by decide +kernel
theorem dM_tick_127 : decode prog_11_method_43_code 127 = .ok (.getfield 19, 3) := by decide +kernel
theorem dM_tick_130 : decode prog_11_method_43_code 130 = .ok (.iload 7, 2) := by decide +kernel
theorem dM_tick_132 : decode prog_11_method_43_code 132 = .ok (.iaload, 1) := by decide +kernel
theorem dM_tick_133 : decode prog_11_method_43_code 133 = .ok (.ifCond .le (16), 3) := by decide +kernel
theorem dM_tick_136 : decode prog_11_method_43_code 136 = .ok (.aload_n 0, 1) := by decide +kernel
theorem dM_tick_137 : decode prog_11_method_43_code 137 = .ok (.getfield 25, 3) := by decide +kernel
theorem dM_tick_140 : decode prog_11_method_43_code 140 = .ok (.bipush (40), 2) := by decide +kernel
theorem dM_tick_142 : decode prog_11_method_43_code 142 = .ok (.iload 7, 2) := by decide +kernel
theorem dM_tick_144 : decode prog_11_method_43_code 144 = .ok (.imul, 1) := by decide +kernel
theorem dM_tick_145 : decode prog_11_method_43_code 145 = .ok (.iaload, 1) := by decide +kernel
theorem dM_tick_146 : decode prog_11_method_43_code 146 = .ok (.goto (17), 3) := by decide +kernel
theorem dM_tick_149 : decode prog_11_method_43_code 149 = .ok (.aload_n 0, 1) := by decide +kernel
theorem dM_tick_150 : decode prog_11_method_43_code 150 = .ok (.aload_n 0, 1) := by decide +kernel
theorem dM_tick_151 : decode prog_11_method_43_code 151 = .ok (.getfield 16, 3) := by decide +kernel
theorem dM_tick_154 : decode prog_11_method_43_code 154 = .ok (.iload 7, 2) := by decide +kernel
theorem dM_tick_156 : decode prog_11_method_43_code 156 = .ok (.iaload, 1) := by decide +kernel
theorem dM_tick_157 : decode prog_11_method_43_code 157 = .ok (.iload_n 1, 1) := by decide +kernel
theorem dM_tick_158 : decode prog_11_method_43_code 158 = .ok (.iload_n 2, 1) := by decide +kernel
theorem dM_tick_159 : decode prog_11_method_43_code 159 = .ok (.iload_n 3, 1) := by decide +kernel
theorem dM_tick_160 : decode prog_11_method_43_code 160 = .ok (.invokevirtual 140, 3) := by decide +kernel
theorem dM_tick_163 : decode prog_11_method_43_code 163 = .ok (.istore 8, 2) := by decide +kernel
theorem dM_tick_165 : decode prog_11_method_43_code 165 = .ok (.aload_n 0, 1) := by decide +kernel
theorem dM_tick_166 : decode prog_11_method_43_code 166 = .ok (.iload 6, 2) := by decide +kernel
theorem dM_tick_168 : decode prog_11_method_43_code 168 = .ok (.invokevirtual 63, 3) := by decide +kernel
theorem dM_tick_171 : decode prog_11_method_43_code 171 = .ok (.iconst 2, 1) := by decide +kernel
theorem dM_tick_172 : decode prog_11_method_43_code 172 = .ok (.if_icmp .ne (10), 3) := by decide +kernel
theorem dM_tick_175 : decode prog_11_method_43_code 175 = .ok (.iload 7, 2) := by decide +kernel
theorem dM_tick_177 : decode prog_11_method_43_code 177 = .ok (.iconst 1, 1) := by decide +kernel
theorem dM_tick_178 : decode prog_11_method_43_code 178 = .ok (.iadd, 1) := by decide +kernel
theorem dM_tick_179 : decode prog_11_method_43_code 179 = .ok (.goto (5), 3) := by decide +kernel
theorem dM_tick_182 : decode prog_11_method_43_code 182 = .ok (.iload 7, 2) := by decide +kernel
theorem dM_tick_184 : decode prog_11_method_43_code 184 = .ok (.istore 9, 2) := by decide +kernel
theorem dM_tick_186 : decode prog_11_method_43_code 186 = .ok (.aload_n 0, 1) := by decide +kernel
theorem dM_tick_187 : decode prog_11_method_43_code 187 = .ok (.getfield 19, 3) := by decide +kernel
theorem dM_tick_190 : decode prog_11_method_43_code 190 = .ok (.iload 9, 2) := by decide +kernel
theorem dM_tick_192 : decode prog_11_method_43_code 192 = .ok (.iaload, 1) := by decide +kernel
theorem dM_tick_193 : decode prog_11_method_43_code 193 = .ok (.ifCond .le (16), 3) := by decide +kernel
theorem dM_tick_196 : decode prog_11_method_43_code 196 = .ok (.aload_n 0, 1) := by decide +kernel
theorem dM_tick_197 : decode prog_11_method_43_code 197 = .ok (.getfield 25, 3) := by decide +kernel
theorem dM_tick_200 : decode prog_11_method_43_code 200 = .ok (.bipush (40), 2) := by decide +kernel
theorem dM_tick_202 : decode prog_11_method_43_code 202 = .ok (.iload 9, 2) := by decide +kernel
theorem dM_tick_204 : decode prog_11_method_43_code 204 = .ok (.imul, 1) := by decide +kernel
theorem dM_tick_205 : decode prog_11_method_43_code 205 = .ok (.iaload, 1) := by decide +kernel
theorem dM_tick_206 : decode prog_11_method_43_code 206 = .ok (.goto (17), 3) := by decide +kernel
theorem dM_tick_209 : decode prog_11_method_43_code 209 = .ok (.aload_n 0, 1) := by decide +kernel
theorem dM_tick_210 : decode prog_11_method_43_code 210 = .ok (.aload_n 0, 1) := by decide +kernel
theorem dM_tick_211 : decode prog_11_method_43_code 211 = .ok (.getfield 16, 3) := by decide +kernel
theorem dM_tick_214 : decode prog_11_method_43_code 214 = .ok (.iload 9, 2) := by decide +kernel
theorem dM_tick_216 : decode prog_11_method_43_code 216 = .ok (.iaload, 1) := by decide +kernel
theorem dM_tick_217 : decode prog_11_method_43_code 217 = .ok (.iload_n 1, 1) := by decide +kernel
theorem dM_tick_218 : decode prog_11_method_43_code 218 = .ok (.iload_n 2, 1) := by decide +kernel
theorem dM_tick_219 : decode prog_11_method_43_code 219 = .ok (.iload_n 3, 1) := by decide +kernel
theorem dM_tick_220 : decode prog_11_method_43_code 220 = .ok (.invokevirtual 140, 3) := by decide +kernel
theorem dM_tick_223 : decode prog_11_method_43_code 223 = .ok (.istore 10, 2) := by decide +kernel
theorem dM_tick_225 : decode prog_11_method_43_code 225 = .ok (.aload_n 0, 1) := by decide +kernel
theorem dM_tick_226 : decode prog_11_method_43_code 226 = .ok (.getfield 46, 3) := by decide +kernel
theorem dM_tick_229 : decode prog_11_method_43_code 229 = .ok (.iload 6, 2) := by decide +kernel
theorem dM_tick_231 : decode prog_11_method_43_code 231 = .ok (.aload_n 0, 1) := by decide +kernel
theorem dM_tick_232 : decode prog_11_method_43_code 232 = .ok (.getfield 7, 3) := by decide +kernel
theorem dM_tick_235 : decode prog_11_method_43_code 235 = .ok (.iload 6, 2) := by decide +kernel
theorem dM_tick_237 : decode prog_11_method_43_code 237 = .ok (.iaload, 1) := by decide +kernel
theorem dM_tick_238 : decode prog_11_method_43_code 238 = .ok (.iload 8, 2) := by decide +kernel
theorem dM_tick_240 : decode prog_11_method_43_code 240 = .ok (.iload 10, 2) := by decide +kernel
theorem dM_tick_242 : decode prog_11_method_43_code 242 = .ok (.invokestatic 116, 3) := by decide +kernel
theorem dM_tick_245 : decode prog_11_method_43_code 245 = .ok (.iastore, 1) := by decide +kernel
theorem dM_tick_246 : decode prog_11_method_43_code 246 = .ok (.iinc 6 (1), 3) := by decide +kernel
theorem dM_tick_249 : decode prog_11_method_43_code 249 = .ok (.goto (-140), 3) := by decide +kernel
theorem dM_tick_252 : decode prog_11_method_43_code 252 = .ok (.iinc 5 (1), 3) := by decide +kernel
theorem dM_tick_255 : decode prog_11_method_43_code 255 = .ok (.goto (-158), 3) := by decide +kernel
theorem dM_tick_258 : decode prog_11_method_43_code 258 = .ok (.iconst 0, 1) := by decide +kernel
theorem dM_tick_259 : decode prog_11_method_43_code 259 = .ok (.istore 5, 2) := by decide +kernel
theorem dM_tick_261 : decode prog_11_method_43_code 261 = .ok (.iconst 3, 1) := by decide +kernel
theorem dM_tick_262 : decode prog_11_method_43_code 262 = .ok (.istore 6, 2) := by decide +kernel
theorem dM_tick_264 : decode prog_11_method_43_code 264 = .ok (.iload 6, 2) := by decide +kernel
theorem dM_tick_266 : decode prog_11_method_43_code 266 = .ok (.iconst 1, 1) := by decide +kernel
theorem dM_tick_267 : decode prog_11_method_43_code 267 = .ok (.if_icmp .lt (78), 3) := by decide +kernel
theorem dM_tick_270 : decode prog_11_method_43_code 270 = .ok (.bipush (23), 2) := by decide +kernel
theorem dM_tick_272 : decode prog_11_method_43_code 272 = .ok (.iload 6, 2) := by decide +kernel
theorem dM_tick_274 : decode prog_11_method_43_code 274 = .ok (.iadd, 1) := by decide +kernel
theorem dM_tick_275 : decode prog_11_method_43_code 275 = .ok (.istore 7, 2) := by decide +kernel
theorem dM_tick_277 : decode prog_11_method_43_code 277 = .ok (.aload_n 0, 1) := by decide +kernel
theorem dM_tick_278 : decode prog_11_method_43_code 278 = .ok (.getfield 16, 3) := by decide +kernel
theorem dM_tick_281 : decode prog_11_method_43_code 281 = .ok (.iload 7, 2) := by decide +kernel
theorem dM_tick_283 : decode prog_11_method_43_code 283 = .ok (.iaload, 1) := by decide +kernel
theorem dM_tick_284 : decode prog_11_method_43_code 284 = .ok (.ifCond .ne (7), 3) := by decide +kernel
theorem dM_tick_287 : decode prog_11_method_43_code 287 = .ok (.iconst 3, 1) := by decide +kernel
theorem dM_tick_288 : decode prog_11_method_43_code 288 = .ok (.goto (40), 3) := by decide +kernel
theorem dM_tick_291 : decode prog_11_method_43_code 291 = .ok (.aload_n 0, 1) := by decide +kernel
theorem dM_tick_292 : decode prog_11_method_43_code 292 = .ok (.getfield 19, 3) := by decide +kernel
theorem dM_tick_295 : decode prog_11_method_43_code 295 = .ok (.iload 7, 2) := by decide +kernel
theorem dM_tick_297 : decode prog_11_method_43_code 297 = .ok (.iaload, 1) := by decide +kernel
theorem dM_tick_298 : decode prog_11_method_43_code 298 = .ok (.ifCond .le (16), 3) := by decide +kernel
theorem dM_tick_301 : decode prog_11_method_43_code 301 = .ok (.aload_n 0, 1) := by decide +kernel
theorem dM_tick_302 : decode prog_11_method_43_code 302 = .ok (.getfield 25, 3) := by decide +kernel
theorem dM_tick_305 : decode prog_11_method_43_code 305 = .ok (.bipush (40), 2) := by decide +kernel
theorem dM_tick_307 : decode prog_11_method_43_code 307 = .ok (.iload 7, 2) := by decide +kernel
theorem dM_tick_309 : decode prog_11_method_43_code 309 = .ok (.imul, 1) := by decide +kernel
theorem dM_tick_310 : decode prog_11_method_43_code 310 = .ok (.iaload, 1) := by decide +kernel
theorem dM_tick_311 : decode prog_11_method_43_code 311 = .ok (.goto (17), 3) := by decide +kernel
theorem dM_tick_314 : decode prog_11_method_43_code 314 = .ok (.aload_n 0, 1) := by decide +kernel
theorem dM_tick_315 : decode prog_11_method_43_code 315 = .ok (.aload_n 0, 1) := by decide +kernel
theorem dM_tick_316 : decode prog_11_method_43_code 316 = .ok (.getfield 16, 3) := by decide +kernel
theorem dM_tick_319 : decode prog_11_method_43_code 319 = .ok (.iload 7, 2) := by decide +kernel
theorem dM_tick_321 : decode prog_11_method_43_code 321 = .ok (.iaload, 1) := by decide +kernel
theorem dM_tick_322 : decode prog_11_method_43_code 322 = .ok (.iload_n 1, 1) := by decide +kernel
theorem dM_tick_323 : decode prog_11_method_43_code 323 = .ok (.iload_n 2, 1) := by decide +kernel
theorem dM_tick_324 : decode prog_11_method_43_code 324 = .ok (.iload_n 3, 1) := by decide +kernel
theorem dM_tick_325 : decode prog_11_method_43_code 325 = .ok (.invokevirtual 140, 3) := by decide +kernel
theorem dM_tick_328 : decode prog_11_method_43_code 328 = .ok (.istore 8, 2) := by decide +kernel
theorem dM_tick_330 : decode prog_11_method_43_code 330 = .ok (.iconst 4, 1) := by decide +kernel
theorem dM_tick_331 : decode prog_11_method_43_code 331 = .ok (.iload 5, 2) := by decide +kernel
theorem dM_tick_333 : decode prog_11_method_43_code 333 = .ok (.imul, 1) := by decide +kernel
theorem dM_tick_334 : decode prog_11_method_43_code 334 = .ok (.iload 8, 2) := by decide +kernel
theorem dM_tick_336 : decode prog_11_method_43_code 336 = .ok (.iadd, 1) := by decide +kernel
theorem dM_tick_337 : decode prog_11_method_43_code 337 = .ok (.istore 5, 2) := by decide +kernel
theorem dM_tick_339 : decode prog_11_method_43_code 339 = .ok (.iinc 6 (-1), 3) := by decide +kernel
theorem dM_tick_342 : decode prog_11_method_43_code 342 = .ok (.goto (-78), 3) := by decide +kernel
theorem dM_tick_345 : decode prog_11_method_43_code 345 = .ok (.iconst 0, 1) := by decide +kernel
theorem dM_tick_346 : decode prog_11_method_43_code 346 = .ok (.istore 6, 2) := by decide +kernel
theorem dM_tick_348 : decode prog_11_method_43_code 348 = .ok (.iload 6, 2) := by decide +kernel
theorem dM_tick_350 : decode prog_11_method_43_code 350 = .ok (.bipush (27), 2) := by decide +kernel
theorem dM_tick_352 : decode prog_11_method_43_code 352 = .ok (.if_icmp .ge (89), 3) := by decide +kernel
theorem dM_tick_355 : decode prog_11_method_43_code 355 = .ok (.iconst 0, 1) := by decide +kernel
theorem dM_tick_356 : decode prog_11_method_43_code 356 = .ok (.istore 7, 2) := by decide +kernel
theorem dM_tick_358 : decode prog_11_method_43_code 358 = .ok (.iload 7, 2) := by decide +kernel
theorem dM_tick_360 : decode prog_11_method_43_code 360 = .ok (.aload_n 0, 1) := by decide +kernel
theorem dM_tick_361 : decode prog_11_method_43_code 361 = .ok (.getfield 19, 3) := by decide +kernel
theorem dM_tick_364 : decode prog_11_method_43_code 364 = .ok (.iload 6, 2) := by decide +kernel
theorem dM_tick_366 : decode prog_11_method_43_code 366 = .ok (.iaload, 1) := by decide +kernel
theorem dM_tick_367 : decode prog_11_method_43_code 367 = .ok (.if_icmp .ge (68), 3) := by decide +kernel
theorem dM_tick_370 : decode prog_11_method_43_code 370 = .ok (.aload_n 0, 1) := by decide +kernel
theorem dM_tick_371 : decode prog_11_method_43_code 371 = .ok (.getfield 25, 3) := by decide +kernel
theorem dM_tick_374 : decode prog_11_method_43_code 374 = .ok (.bipush (40), 2) := by decide +kernel
theorem dM_tick_376 : decode prog_11_method_43_code 376 = .ok (.iload 6, 2) := by decide +kernel
theorem dM_tick_378 : decode prog_11_method_43_code 378 = .ok (.imul, 1) := by decide +kernel
theorem dM_tick_379 : decode prog_11_method_43_code 379 = .ok (.iload 7, 2) := by decide +kernel
theorem dM_tick_381 : decode prog_11_method_43_code 381 = .ok (.iadd, 1) := by decide +kernel
theorem dM_tick_382 : decode prog_11_method_43_code 382 = .ok (.iload 7, 2) := by decide +kernel
theorem dM_tick_384 : decode prog_11_method_43_code 384 = .ok (.iconst 1, 1) := by decide +kernel
theorem dM_tick_385 : decode prog_11_method_43_code 385 = .ok (.iadd, 1) := by decide +kernel
theorem dM_tick_386 : decode prog_11_method_43_code 386 = .ok (.aload_n 0, 1) := by decide +kernel
theorem dM_tick_387 : decode prog_11_method_43_code 387 = .ok (.getfield 19, 3) := by decide +kernel
theorem dM_tick_390 : decode prog_11_method_43_code 390 = .ok (.iload 6, 2) := by decide +kernel
theorem dM_tick_392 : decode prog_11_method_43_code 392 = .ok (.iaload, 1) := by decide +kernel
theorem dM_tick_393 : decode prog_11_method_43_code 393 = .ok (.if_icmp .ge (21), 3) := by decide +kernel
theorem dM_tick_396 : decode prog_11_method_43_code 396 = .ok (.aload_n 0, 1) := by decide +kernel
theorem dM_tick_397 : decode prog_11_method_43_code 397 = .ok (.getfield 25, 3) := by decide +kernel
theorem dM_tick_400 : decode prog_11_method_43_code 400 = .ok (.bipush (40), 2) := by decide +kernel
theorem dM_tick_402 : decode prog_11_method_43_code 402 = .ok (.iload 6, 2) := by decide +kernel
theorem dM_tick_404 : decode prog_11_method_43_code 404 = .ok (.imul, 1) := by decide +kernel
theorem dM_tick_405 : decode prog_11_method_43_code 405 = .ok (.iload 7, 2) := by decide +kernel
theorem dM_tick_407 : decode prog_11_method_43_code 407 = .ok (.iadd, 1) := by decide +kernel
theorem dM_tick_408 : decode prog_11_method_43_code 408 = .ok (.iconst 1, 1) := by decide +kernel
theorem dM_tick_409 : decode prog_11_method_43_code 409 = .ok (.iadd, 1) := by decide +kernel
theorem dM_tick_410 : decode prog_11_method_43_code 410 = .ok (.iaload, 1) := by decide +kernel
theorem dM_tick_411 : decode prog_11_method_43_code 411 = .ok (.goto (17), 3) := by decide +kernel
theorem dM_tick_414 : decode prog_11_method_43_code 414 = .ok (.aload_n 0, 1) := by decide +kernel
theorem dM_tick_415 : decode prog_11_method_43_code 415 = .ok (.aload_n 0, 1) := by decide +kernel
theorem dM_tick_416 : decode prog_11_method_43_code 416 = .ok (.getfield 16, 3) := by decide +kernel
theorem dM_tick_419 : decode prog_11_method_43_code 419 = .ok (.iload 6, 2) := by decide +kernel
theorem dM_tick_421 : decode prog_11_method_43_code 421 = .ok (.iaload, 1) := by decide +kernel
theorem dM_tick_422 : decode prog_11_method_43_code 422 = .ok (.iload_n 1, 1) := by decide +kernel
theorem dM_tick_423 : decode prog_11_method_43_code 423 = .ok (.iload_n 2, 1) := by decide +kernel
theorem dM_tick_424 : decode prog_11_method_43_code 424 = .ok (.iload_n 3, 1) := by decide +kernel
theorem dM_tick_425 : decode prog_11_method_43_code 425 = .ok (.invokevirtual 140, 3) := by decide +kernel
theorem dM_tick_428 : decode prog_11_method_43_code 428 = .ok (.iastore, 1) := by decide +kernel
theorem dM_tick_429 : decode prog_11_method_43_code 429 = .ok (.iinc 7 (1), 3) := by decide +kernel
theorem dM_tick_432 : decode prog_11_method_43_code 432 = .ok (.goto (-74), 3) := by decide +kernel
theorem dM_tick_435 : decode prog_11_method_43_code 435 = .ok (.iinc 6 (1), 3) := by decide +kernel
theorem dM_tick_438 : decode prog_11_method_43_code 438 = .ok (.goto (-90), 3) := by decide +kernel
theorem dM_tick_441 : decode prog_11_method_43_code 441 = .ok (.iload 5, 2) := by decide +kernel
theorem dM_tick_443 : decode prog_11_method_43_code 443 = .ok (.ireturn, 1) := by decide +kernel
theorem dM_restart_0 : decode prog_11_method_44_code 0 = .ok (.aload_n 0, 1) := by decide +kernel
theorem dM_restart_1 : decode prog_11_method_44_code 1 = .ok (.iconst 0, 1) := by decide +kernel
theorem dM_restart_2 : decode prog_11_method_44_code 2 = .ok (.putfield 49, 3) := by decide +kernel
theorem dM_restart_5 : decode prog_11_method_44_code 5 = .ok (.aload_n 0, 1) := by decide +kernel
theorem dM_restart_6 : decode prog_11_method_44_code 6 = .ok (.invokevirtual 67, 3) := by decide +kernel
theorem dM_restart_9 : decode prog_11_method_44_code 9 = .ok (.return_, 1) := by decide +kernel
