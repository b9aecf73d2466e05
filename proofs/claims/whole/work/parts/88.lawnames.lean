/-! The law: names and decode rows, laid by program (wip/tools/parts_W.py). -/
abbrev jW : mx_J := (x, code, maxLocals, ret)
abbrev jW_gate : mx_J := (⟨"MovedRegistersLaw", "gate", "(LMovedRegisters;II[J)I"⟩, method_3_code, 5, (some .int))
abbrev hhW_gate : List (Nat × Nat × Nat × Nat) := [(0, 10, 13, 13), (0, 10, 17, 15)]
abbrev tbW_gate : List ExceptionTableEntry := [⟨0, 10, 13, 13⟩, ⟨0, 10, 17, 15⟩]
theorem cwW_gate : Cond.codeWith jW_gate.1 jW_gate.2.1 jW_gate.2.2.1 jW_gate.2.2.2 hhW_gate ∈ mT := (mT_2 (i := 18) rfl rfl)
theorem vW_gate : Cond.static jW_gate.1 ∈ mT := (mT_2 (i := 17) rfl rfl)
theorem dW_gate_0 : decode method_3_code 0 = .ok (.aload_n 3, 1) := by decide +kernel
theorem dW_gate_1 : decode method_3_code 1 = .ok (.iconst 0, 1) := by decide +kernel
theorem dW_gate_2 : decode method_3_code 2 = .ok (.aload_n 0, 1) := by decide +kernel
theorem dW_gate_3 : decode method_3_code 3 = .ok (.iload_n 1, 1) := by decide +kernel
theorem dW_gate_4 : decode method_3_code 4 = .ok (.iload_n 2, 1) := by decide +kernel
theorem dW_gate_5 : decode method_3_code 5 = .ok (.invokevirtual 7, 3) := by decide +kernel
theorem dW_gate_8 : decode method_3_code 8 = .ok (.i2l, 1) := by decide +kernel
theorem dW_gate_9 : decode method_3_code 9 = .ok (.lastore, 1) := by decide +kernel
theorem dW_gate_10 : decode method_3_code 10 = .ok (.goto (11), 3) := by decide +kernel
theorem dW_gate_13 : decode method_3_code 13 = .ok (.astore 4, 2) := by decide +kernel
theorem dW_gate_15 : decode method_3_code 15 = .ok (.iconst 1, 1) := by decide +kernel
theorem dW_gate_16 : decode method_3_code 16 = .ok (.ireturn, 1) := by decide +kernel
theorem dW_gate_17 : decode method_3_code 17 = .ok (.astore 4, 2) := by decide +kernel
theorem dW_gate_19 : decode method_3_code 19 = .ok (.iconst 2, 1) := by decide +kernel
theorem dW_gate_20 : decode method_3_code 20 = .ok (.ireturn, 1) := by decide +kernel
theorem dW_gate_21 : decode method_3_code 21 = .ok (.iconst 0, 1) := by decide +kernel
theorem dW_gate_22 : decode method_3_code 22 = .ok (.ireturn, 1) := by decide +kernel
abbrev jW_wire : mx_J := (⟨"MovedRegistersLaw", "wire", "(LMovedRegisters;IIII)I"⟩, method_4_code, 6, (some .int))
abbrev hhW_wire : List (Nat × Nat × Nat × Nat) := [(0, 9, 12, 21), (0, 9, 16, 13)]
abbrev tbW_wire : List ExceptionTableEntry := [⟨0, 9, 12, 21⟩, ⟨0, 9, 16, 13⟩]
theorem cwW_wire : Cond.codeWith jW_wire.1 jW_wire.2.1 jW_wire.2.2.1 jW_wire.2.2.2 hhW_wire ∈ mT := (mT_2 (i := 110) rfl rfl)
theorem vW_wire : Cond.static jW_wire.1 ∈ mT := (mT_2 (i := 109) rfl rfl)
theorem dW_wire_0 : decode method_4_code 0 = .ok (.aload_n 0, 1) := by decide +kernel
theorem dW_wire_1 : decode method_4_code 1 = .ok (.iload_n 1, 1) := by decide +kernel
theorem dW_wire_2 : decode method_4_code 2 = .ok (.iload_n 2, 1) := by decide +kernel
theorem dW_wire_3 : decode method_4_code 3 = .ok (.iload_n 3, 1) := by decide +kernel
theorem dW_wire_4 : decode method_4_code 4 = .ok (.iload 4, 2) := by decide +kernel
theorem dW_wire_6 : decode method_4_code 6 = .ok (.invokevirtual 17, 3) := by decide +kernel
theorem dW_wire_9 : decode method_4_code 9 = .ok (.goto (11), 3) := by decide +kernel
theorem dW_wire_12 : decode method_4_code 12 = .ok (.astore 5, 2) := by decide +kernel
theorem dW_wire_14 : decode method_4_code 14 = .ok (.iconst 1, 1) := by decide +kernel
theorem dW_wire_15 : decode method_4_code 15 = .ok (.ireturn, 1) := by decide +kernel
theorem dW_wire_16 : decode method_4_code 16 = .ok (.astore 5, 2) := by decide +kernel
theorem dW_wire_18 : decode method_4_code 18 = .ok (.iconst 2, 1) := by decide +kernel
theorem dW_wire_19 : decode method_4_code 19 = .ok (.ireturn, 1) := by decide +kernel
theorem dW_wire_20 : decode method_4_code 20 = .ok (.iconst 0, 1) := by decide +kernel
theorem dW_wire_21 : decode method_4_code 21 = .ok (.ireturn, 1) := by decide +kernel
abbrev jW_hold : mx_J := (⟨"MovedRegistersLaw", "hold", "(LMovedRegisters;IIII)I"⟩, method_5_code, 6, (some .int))
abbrev hhW_hold : List (Nat × Nat × Nat × Nat) := [(0, 9, 12, 21), (0, 9, 16, 13)]
abbrev tbW_hold : List ExceptionTableEntry := [⟨0, 9, 12, 21⟩, ⟨0, 9, 16, 13⟩]
theorem cwW_hold : Cond.codeWith jW_hold.1 jW_hold.2.1 jW_hold.2.2.1 jW_hold.2.2.2 hhW_hold ∈ mT := (mT_2 (i := 162) rfl rfl)
theorem vW_hold : Cond.static jW_hold.1 ∈ mT := (mT_2 (i := 161) rfl rfl)
theorem dW_hold_0 : decode method_5_code 0 = .ok (.aload_n 0, 1) := by decide +kernel
theorem dW_hold_1 : decode method_5_code 1 = .ok (.iload_n 1, 1) := by decide +kernel
theorem dW_hold_2 : decode method_5_code 2 = .ok (.iload_n 2, 1) := by decide +kernel
theorem dW_hold_3 : decode method_5_code 3 = .ok (.iload_n 3, 1) := by decide +kernel
theorem dW_hold_4 : decode method_5_code 4 = .ok (.iload 4, 2) := by decide +kernel
theorem dW_hold_6 : decode method_5_code 6 = .ok (.invokevirtual 23, 3) := by decide +kernel
theorem dW_hold_9 : decode method_5_code 9 = .ok (.goto (11), 3) := by decide +kernel
theorem dW_hold_12 : decode method_5_code 12 = .ok (.astore 5, 2) := by decide +kernel
theorem dW_hold_14 : decode method_5_code 14 = .ok (.iconst 1, 1) := by decide +kernel
theorem dW_hold_15 : decode method_5_code 15 = .ok (.ireturn, 1) := by decide +kernel
theorem dW_hold_16 : decode method_5_code 16 = .ok (.astore 5, 2) := by decide +kernel
theorem dW_hold_18 : decode method_5_code 18 = .ok (.iconst 2, 1) := by decide +kernel
theorem dW_hold_19 : decode method_5_code 19 = .ok (.ireturn, 1) := by decide +kernel
theorem dW_hold_20 : decode method_5_code 20 = .ok (.iconst 0, 1) := by decide +kernel
theorem dW_hold_21 : decode method_5_code 21 = .ok (.ireturn, 1) := by decide +kernel
abbrev jW_held : mx_J := (⟨"MovedRegistersLaw", "held", "(LMovedRegisters;III[J)I"⟩, method_6_code, 6, (some .int))
abbrev hhW_held : List (Nat × Nat × Nat × Nat) := [(0, 12, 15, 21)]
abbrev tbW_held : List ExceptionTableEntry := [⟨0, 12, 15, 21⟩]
theorem cwW_held : Cond.codeWith jW_held.1 jW_held.2.1 jW_held.2.2.1 jW_held.2.2.2 hhW_held ∈ mT := (mT_2 (i := 182) rfl rfl)
theorem vW_held : Cond.static jW_held.1 ∈ mT := (mT_2 (i := 181) rfl rfl)
theorem dW_held_0 : decode method_6_code 0 = .ok (.aload 4, 2) := by decide +kernel
theorem dW_held_2 : decode method_6_code 2 = .ok (.iconst 0, 1) := by decide +kernel
theorem dW_held_3 : decode method_6_code 3 = .ok (.aload_n 0, 1) := by decide +kernel
theorem dW_held_4 : decode method_6_code 4 = .ok (.iload_n 1, 1) := by decide +kernel
theorem dW_held_5 : decode method_6_code 5 = .ok (.iload_n 2, 1) := by decide +kernel
theorem dW_held_6 : decode method_6_code 6 = .ok (.iload_n 3, 1) := by decide +kernel
theorem dW_held_7 : decode method_6_code 7 = .ok (.invokevirtual 26, 3) := by decide +kernel
theorem dW_held_10 : decode method_6_code 10 = .ok (.i2l, 1) := by decide +kernel
theorem dW_held_11 : decode method_6_code 11 = .ok (.lastore, 1) := by decide +kernel
theorem dW_held_12 : decode method_6_code 12 = .ok (.goto (7), 3) := by decide +kernel
theorem dW_held_15 : decode method_6_code 15 = .ok (.astore 5, 2) := by decide +kernel
theorem dW_held_17 : decode method_6_code 17 = .ok (.iconst 1, 1) := by decide +kernel
theorem dW_held_18 : decode method_6_code 18 = .ok (.ireturn, 1) := by decide +kernel
theorem dW_held_19 : decode method_6_code 19 = .ok (.iconst 0, 1) := by decide +kernel
theorem dW_held_20 : decode method_6_code 20 = .ok (.ireturn, 1) := by decide +kernel
abbrev jW_registers : mx_J := (⟨"MovedRegistersLaw", "registers", "(LMovedRegisters;II[J)I"⟩, method_7_code, 5, (some .int))
abbrev hhW_registers : List (Nat × Nat × Nat × Nat) := [(0, 10, 13, 21)]
abbrev tbW_registers : List ExceptionTableEntry := [⟨0, 10, 13, 21⟩]
theorem cwW_registers : Cond.codeWith jW_registers.1 jW_registers.2.1 jW_registers.2.2.1 jW_registers.2.2.2 hhW_registers ∈ mT := (mT_2 (i := 193) rfl rfl)
theorem vW_registers : Cond.static jW_registers.1 ∈ mT := (mT_2 (i := 192) rfl rfl)
theorem dW_registers_0 : decode method_7_code 0 = .ok (.aload_n 3, 1) := by decide +kernel
theorem dW_registers_1 : decode method_7_code 1 = .ok (.iconst 0, 1) := by decide +kernel
theorem dW_registers_2 : decode method_7_code 2 = .ok (.aload_n 0, 1) := by decide +kernel
theorem dW_registers_3 : decode method_7_code 3 = .ok (.iload_n 1, 1) := by decide +kernel
theorem dW_registers_4 : decode method_7_code 4 = .ok (.iload_n 2, 1) := by decide +kernel
theorem dW_registers_5 : decode method_7_code 5 = .ok (.invokevirtual 30, 3) := by decide +kernel
theorem dW_registers_8 : decode method_7_code 8 = .ok (.i2l, 1) := by decide +kernel
theorem dW_registers_9 : decode method_7_code 9 = .ok (.lastore, 1) := by decide +kernel
theorem dW_registers_10 : decode method_7_code 10 = .ok (.goto (7), 3) := by decide +kernel
theorem dW_registers_13 : decode method_7_code 13 = .ok (.astore 4, 2) := by decide +kernel
theorem dW_registers_15 : decode method_7_code 15 = .ok (.iconst 1, 1) := by decide +kernel
theorem dW_registers_16 : decode method_7_code 16 = .ok (.ireturn, 1) := by decide +kernel
theorem dW_registers_17 : decode method_7_code 17 = .ok (.iconst 0, 1) := by decide +kernel
theorem dW_registers_18 : decode method_7_code 18 = .ok (.ireturn, 1) := by decide +kernel
abbrev jW_period : mx_J := (⟨"MovedRegistersLaw", "period", "(LMovedRegisters;[J)I"⟩, method_8_code, 3, (some .int))
abbrev hhW_period : List (Nat × Nat × Nat × Nat) := [(0, 8, 11, 37)]
abbrev tbW_period : List ExceptionTableEntry := [⟨0, 8, 11, 37⟩]
theorem cwW_period : Cond.codeWith jW_period.1 jW_period.2.1 jW_period.2.2.1 jW_period.2.2.2 hhW_period ∈ mT := (mT_2 (i := 200) rfl rfl)
theorem vW_period : Cond.static jW_period.1 ∈ mT := (mT_2 (i := 199) rfl rfl)
theorem dW_period_0 : decode method_8_code 0 = .ok (.aload_n 1, 1) := by decide +kernel
theorem dW_period_1 : decode method_8_code 1 = .ok (.iconst 0, 1) := by decide +kernel
theorem dW_period_2 : decode method_8_code 2 = .ok (.aload_n 0, 1) := by decide +kernel
theorem dW_period_3 : decode method_8_code 3 = .ok (.invokevirtual 33, 3) := by decide +kernel
theorem dW_period_6 : decode method_8_code 6 = .ok (.i2l, 1) := by decide +kernel
theorem dW_period_7 : decode method_8_code 7 = .ok (.lastore, 1) := by decide +kernel
theorem dW_period_8 : decode method_8_code 8 = .ok (.goto (6), 3) := by decide +kernel
theorem dW_period_11 : decode method_8_code 11 = .ok (.astore_n 2, 1) := by decide +kernel
theorem dW_period_12 : decode method_8_code 12 = .ok (.iconst 1, 1) := by decide +kernel
theorem dW_period_13 : decode method_8_code 13 = .ok (.ireturn, 1) := by decide +kernel
theorem dW_period_14 : decode method_8_code 14 = .ok (.iconst 0, 1) := by decide +kernel
theorem dW_period_15 : decode method_8_code 15 = .ok (.ireturn, 1) := by decide +kernel
abbrev jW_weight : mx_J := (⟨"MovedRegistersLaw", "weight", "(LMovedRegisters;II[J)I"⟩, method_9_code, 5, (some .int))
abbrev hhW_weight : List (Nat × Nat × Nat × Nat) := [(0, 10, 13, 21), (0, 10, 17, 37)]
abbrev tbW_weight : List ExceptionTableEntry := [⟨0, 10, 13, 21⟩, ⟨0, 10, 17, 37⟩]
theorem cwW_weight : Cond.codeWith jW_weight.1 jW_weight.2.1 jW_weight.2.2.1 jW_weight.2.2.2 hhW_weight ∈ mT := (mT_3 (i := 14) rfl rfl)
theorem vW_weight : Cond.static jW_weight.1 ∈ mT := (mT_3 (i := 13) rfl rfl)
theorem dW_weight_0 : decode method_9_code 0 = .ok (.aload_n 3, 1) := by decide +kernel
theorem dW_weight_1 : decode method_9_code 1 = .ok (.iconst 0, 1) := by decide +kernel
theorem dW_weight_2 : decode method_9_code 2 = .ok (.aload_n 0, 1) := by decide +kernel
theorem dW_weight_3 : decode method_9_code 3 = .ok (.iload_n 1, 1) := by decide +kernel
theorem dW_weight_4 : decode method_9_code 4 = .ok (.iload_n 2, 1) := by decide +kernel
theorem dW_weight_5 : decode method_9_code 5 = .ok (.invokevirtual 39, 3) := by decide +kernel
theorem dW_weight_8 : decode method_9_code 8 = .ok (.i2l, 1) := by decide +kernel
theorem dW_weight_9 : decode method_9_code 9 = .ok (.lastore, 1) := by decide +kernel
theorem dW_weight_10 : decode method_9_code 10 = .ok (.goto (11), 3) := by decide +kernel
theorem dW_weight_13 : decode method_9_code 13 = .ok (.astore 4, 2) := by decide +kernel
theorem dW_weight_15 : decode method_9_code 15 = .ok (.iconst 1, 1) := by decide +kernel
theorem dW_weight_16 : decode method_9_code 16 = .ok (.ireturn, 1) := by decide +kernel
theorem dW_weight_17 : decode method_9_code 17 = .ok (.astore 4, 2) := by decide +kernel
theorem dW_weight_19 : decode method_9_code 19 = .ok (.iconst 2, 1) := by decide +kernel
theorem dW_weight_20 : decode method_9_code 20 = .ok (.ireturn, 1) := by decide +kernel
theorem dW_weight_21 : decode method_9_code 21 = .ok (.iconst 0, 1) := by decide +kernel
theorem dW_weight_22 : decode method_9_code 22 = .ok (.ireturn, 1) := by decide +kernel
abbrev jW_delay : mx_J := (⟨"MovedRegistersLaw", "delay", "(LMovedRegisters;II[J)I"⟩, method_10_code, 5, (some .int))
abbrev hhW_delay : List (Nat × Nat × Nat × Nat) := [(0, 10, 13, 21), (0, 10, 17, 37)]
abbrev tbW_delay : List ExceptionTableEntry := [⟨0, 10, 13, 21⟩, ⟨0, 10, 17, 37⟩]
theorem cwW_delay : Cond.codeWith jW_delay.1 jW_delay.2.1 jW_delay.2.2.1 jW_delay.2.2.2 hhW_delay ∈ mT := (mT_3 (i := 26) rfl rfl)
theorem vW_delay : Cond.static jW_delay.1 ∈ mT := (mT_3 (i := 25) rfl rfl)
theorem dW_delay_0 : decode method_10_code 0 = .ok (.aload_n 3, 1) := by decide +kernel
theorem dW_delay_1 : decode method_10_code 1 = .ok (.iconst 0, 1) := by decide +kernel
theorem dW_delay_2 : decode method_10_code 2 = .ok (.aload_n 0, 1) := by decide +kernel
theorem dW_delay_3 : decode method_10_code 3 = .ok (.iload_n 1, 1) := by decide +kernel
theorem dW_delay_4 : decode method_10_code 4 = .ok (.iload_n 2, 1) := by decide +kernel
theorem dW_delay_5 : decode method_10_code 5 = .ok (.invokevirtual 42, 3) := by decide +kernel
theorem dW_delay_8 : decode method_10_code 8 = .ok (.i2l, 1) := by decide +kernel
theorem dW_delay_9 : decode method_10_code 9 = .ok (.lastore, 1) := by decide +kernel
theorem dW_delay_10 : decode method_10_code 10 = .ok (.goto (11), 3) := by decide +kernel
theorem dW_delay_13 : decode method_10_code 13 = .ok (.astore 4, 2) := by decide +kernel
theorem dW_delay_15 : decode method_10_code 15 = .ok (.iconst 1, 1) := by decide +kernel
theorem dW_delay_16 : decode method_10_code 16 = .ok (.ireturn, 1) := by decide +kernel
theorem dW_delay_17 : decode method_10_code 17 = .ok (.astore 4, 2) := by decide +kernel
theorem dW_delay_19 : decode method_10_code 19 = .ok (.iconst 2, 1) := by decide +kernel
theorem dW_delay_20 : decode method_10_code 20 = .ok (.ireturn, 1) := by decide +kernel
theorem dW_delay_21 : decode method_10_code 21 = .ok (.iconst 0, 1) := by decide +kernel
theorem dW_delay_22 : decode method_10_code 22 = .ok (.ireturn, 1) := by decide +kernel
abbrev jW_least : mx_J := (⟨"MovedRegistersLaw", "least", "(LMovedRegisters;[J)I"⟩, method_11_code, 3, (some .int))
abbrev hhW_least : List (Nat × Nat × Nat × Nat) := [(0, 8, 11, 37)]
abbrev tbW_least : List ExceptionTableEntry := [⟨0, 8, 11, 37⟩]
theorem cwW_least : Cond.codeWith jW_least.1 jW_least.2.1 jW_least.2.2.1 jW_least.2.2.2 hhW_least ∈ mT := (mT_3 (i := 33) rfl rfl)
theorem vW_least : Cond.static jW_least.1 ∈ mT := (mT_3 (i := 32) rfl rfl)
theorem dW_least_0 : decode method_11_code 0 = .ok (.aload_n 1, 1) := by decide +kernel
theorem dW_least_1 : decode method_11_code 1 = .ok (.iconst 0, 1) := by decide +kernel
theorem dW_least_2 : decode method_11_code 2 = .ok (.aload_n 0, 1) := by decide +kernel
theorem dW_least_3 : decode method_11_code 3 = .ok (.invokevirtual 45, 3) := by decide +kernel
theorem dW_least_6 : decode method_11_code 6 = .ok (.i2l, 1) := by decide +kernel
theorem dW_least_7 : decode method_11_code 7 = .ok (.lastore, 1) := by decide +kernel
theorem dW_least_8 : decode method_11_code 8 = .ok (.goto (6), 3) := by decide +kernel
theorem dW_least_11 : decode method_11_code 11 = .ok (.astore_n 2, 1) := by decide +kernel
theorem dW_least_12 : decode method_11_code 12 = .ok (.iconst 1, 1) := by decide +kernel
theorem dW_least_13 : decode method_11_code 13 = .ok (.ireturn, 1) := by decide +kernel
theorem dW_least_14 : decode method_11_code 14 = .ok (.iconst 0, 1) := by decide +kernel
theorem dW_least_15 : decode method_11_code 15 = .ok (.ireturn, 1) := by decide +kernel
abbrev jW_shared : mx_J := (⟨"MovedRegistersLaw", "shared", "(LMovedRegisters;[J)I"⟩, method_12_code, 3, (some .int))
abbrev hhW_shared : List (Nat × Nat × Nat × Nat) := [(0, 8, 11, 37)]
abbrev tbW_shared : List ExceptionTableEntry := [⟨0, 8, 11, 37⟩]
theorem cwW_shared : Cond.codeWith jW_shared.1 jW_shared.2.1 jW_shared.2.2.1 jW_shared.2.2.2 hhW_shared ∈ mT := (mT_3 (i := 74) rfl rfl)
theorem vW_shared : Cond.static jW_shared.1 ∈ mT := (mT_3 (i := 73) rfl rfl)
theorem dW_shared_0 : decode method_12_code 0 = .ok (.aload_n 1, 1) := by decide +kernel
theorem dW_shared_1 : decode method_12_code 1 = .ok (.iconst 0, 1) := by decide +kernel
theorem dW_shared_2 : decode method_12_code 2 = .ok (.aload_n 0, 1) := by decide +kernel
theorem dW_shared_3 : decode method_12_code 3 = .ok (.invokevirtual 48, 3) := by decide +kernel
theorem dW_shared_6 : decode method_12_code 6 = .ok (.i2l, 1) := by decide +kernel
theorem dW_shared_7 : decode method_12_code 7 = .ok (.lastore, 1) := by decide +kernel
theorem dW_shared_8 : decode method_12_code 8 = .ok (.goto (6), 3) := by decide +kernel
theorem dW_shared_11 : decode method_12_code 11 = .ok (.astore_n 2, 1) := by decide +kernel
theorem dW_shared_12 : decode method_12_code 12 = .ok (.iconst 1, 1) := by decide +kernel
theorem dW_shared_13 : decode method_12_code 13 = .ok (.ireturn, 1) := by decide +kernel
theorem dW_shared_14 : decode method_12_code 14 = .ok (.iconst 0, 1) := by decide +kernel
theorem dW_shared_15 : decode method_12_code 15 = .ok (.ireturn, 1) := by decide +kernel
abbrev jW_retime : mx_J := (⟨"MovedRegistersLaw", "retime", "(LMovedRegisters;I[J)I"⟩, method_13_code, 4, (some .int))
abbrev hhW_retime : List (Nat × Nat × Nat × Nat) := [(0, 9, 12, 37), (0, 9, 15, 13)]
abbrev tbW_retime : List ExceptionTableEntry := [⟨0, 9, 12, 37⟩, ⟨0, 9, 15, 13⟩]
theorem cwW_retime : Cond.codeWith jW_retime.1 jW_retime.2.1 jW_retime.2.2.1 jW_retime.2.2.2 hhW_retime ∈ mT := (mT_3 (i := 86) rfl rfl)
theorem vW_retime : Cond.static jW_retime.1 ∈ mT := (mT_3 (i := 85) rfl rfl)
theorem dW_retime_0 : decode method_13_code 0 = .ok (.aload_n 2, 1) := by decide +kernel
theorem dW_retime_1 : decode method_13_code 1 = .ok (.iconst 0, 1) := by decide +kernel
theorem dW_retime_2 : decode method_13_code 2 = .ok (.aload_n 0, 1) := by decide +kernel
theorem dW_retime_3 : decode method_13_code 3 = .ok (.iload_n 1, 1) := by decide +kernel
theorem dW_retime_4 : decode method_13_code 4 = .ok (.invokevirtual 51, 3) := by decide +kernel
theorem dW_retime_7 : decode method_13_code 7 = .ok (.i2l, 1) := by decide +kernel
theorem dW_retime_8 : decode method_13_code 8 = .ok (.lastore, 1) := by decide +kernel
theorem dW_retime_9 : decode method_13_code 9 = .ok (.goto (9), 3) := by decide +kernel
theorem dW_retime_12 : decode method_13_code 12 = .ok (.astore_n 3, 1) := by decide +kernel
theorem dW_retime_13 : decode method_13_code 13 = .ok (.iconst 1, 1) := by decide +kernel
theorem dW_retime_14 : decode method_13_code 14 = .ok (.ireturn, 1) := by decide +kernel
theorem dW_retime_15 : decode method_13_code 15 = .ok (.astore_n 3, 1) := by decide +kernel
theorem dW_retime_16 : decode method_13_code 16 = .ok (.iconst 2, 1) := by decide +kernel
theorem dW_retime_17 : decode method_13_code 17 = .ok (.ireturn, 1) := by decide +kernel
theorem dW_retime_18 : decode method_13_code 18 = .ok (.iconst 0, 1) := by decide +kernel
theorem dW_retime_19 : decode method_13_code 19 = .ok (.ireturn, 1) := by decide +kernel
abbrev jW_label : mx_J := (⟨"MovedRegistersLaw", "label", "(LMovedRegisters;I[J)I"⟩, method_14_code, 4, (some .int))
abbrev hhW_label : List (Nat × Nat × Nat × Nat) := [(0, 9, 12, 21)]
abbrev tbW_label : List ExceptionTableEntry := [⟨0, 9, 12, 21⟩]
theorem cwW_label : Cond.codeWith jW_label.1 jW_label.2.1 jW_label.2.2.1 jW_label.2.2.2 hhW_label ∈ mT := (mT_3 (i := 161) rfl rfl)
theorem vW_label : Cond.static jW_label.1 ∈ mT := (mT_3 (i := 160) rfl rfl)
theorem dW_label_0 : decode method_14_code 0 = .ok (.aload_n 2, 1) := by decide +kernel
theorem dW_label_1 : decode method_14_code 1 = .ok (.iconst 0, 1) := by decide +kernel
theorem dW_label_2 : decode method_14_code 2 = .ok (.aload_n 0, 1) := by decide +kernel
theorem dW_label_3 : decode method_14_code 3 = .ok (.iload_n 1, 1) := by decide +kernel
theorem dW_label_4 : decode method_14_code 4 = .ok (.invokevirtual 55, 3) := by decide +kernel
theorem dW_label_7 : decode method_14_code 7 = .ok (.i2l, 1) := by decide +kernel
theorem dW_label_8 : decode method_14_code 8 = .ok (.lastore, 1) := by decide +kernel
theorem dW_label_9 : decode method_14_code 9 = .ok (.goto (6), 3) := by decide +kernel
theorem dW_label_12 : decode method_14_code 12 = .ok (.astore_n 3, 1) := by decide +kernel
theorem dW_label_13 : decode method_14_code 13 = .ok (.iconst 1, 1) := by decide +kernel
theorem dW_label_14 : decode method_14_code 14 = .ok (.ireturn, 1) := by decide +kernel
theorem dW_label_15 : decode method_14_code 15 = .ok (.iconst 0, 1) := by decide +kernel
theorem dW_label_16 : decode method_14_code 16 = .ok (.ireturn, 1) := by decide +kernel
abbrev jW_tick : mx_J := (⟨"MovedRegistersLaw", "tick", "(LMovedRegisters;III[J)I"⟩, method_15_code, 6, (some .int))
abbrev hhW_tick : List (Nat × Nat × Nat × Nat) := [(0, 12, 15, 37), (0, 12, 19, 13)]
abbrev tbW_tick : List ExceptionTableEntry := [⟨0, 12, 15, 37⟩, ⟨0, 12, 19, 13⟩]
theorem cwW_tick : Cond.codeWith jW_tick.1 jW_tick.2.1 jW_tick.2.2.1 jW_tick.2.2.2 hhW_tick ∈ mT := (mT_3 (i := 168) rfl rfl)
theorem vW_tick : Cond.static jW_tick.1 ∈ mT := (mT_3 (i := 167) rfl rfl)
theorem dW_tick_0 : decode method_15_code 0 = .ok (.aload 4, 2) := by decide +kernel
theorem dW_tick_2 : decode method_15_code 2 = .ok (.iconst 0, 1) := by decide +kernel
theorem dW_tick_3 : decode method_15_code 3 = .ok (.aload_n 0, 1) := by decide +kernel
theorem dW_tick_4 : decode method_15_code 4 = .ok (.iload_n 1, 1) := by decide +kernel
theorem dW_tick_5 : decode method_15_code 5 = .ok (.iload_n 2, 1) := by decide +kernel
theorem dW_tick_6 : decode method_15_code 6 = .ok (.iload_n 3, 1) := by decide +kernel
theorem dW_tick_7 : decode method_15_code 7 = .ok (.invokevirtual 58, 3) := by decide +kernel
theorem dW_tick_10 : decode method_15_code 10 = .ok (.i2l, 1) := by decide +kernel
theorem dW_tick_11 : decode method_15_code 11 = .ok (.lastore, 1) := by decide +kernel
theorem dW_tick_12 : decode method_15_code 12 = .ok (.goto (11), 3) := by decide +kernel
theorem dW_tick_15 : decode method_15_code 15 = .ok (.astore 5, 2) := by decide +kernel
theorem dW_tick_17 : decode method_15_code 17 = .ok (.iconst 1, 1) := by decide +kernel
theorem dW_tick_18 : decode method_15_code 18 = .ok (.ireturn, 1) := by decide +kernel
theorem dW_tick_19 : decode method_15_code 19 = .ok (.astore 5, 2) := by decide +kernel
theorem dW_tick_21 : decode method_15_code 21 = .ok (.iconst 2, 1) := by decide +kernel
theorem dW_tick_22 : decode method_15_code 22 = .ok (.ireturn, 1) := by decide +kernel
theorem dW_tick_23 : decode method_15_code 23 = .ok (.iconst 0, 1) := by decide +kernel
theorem dW_tick_24 : decode method_15_code 24 = .ok (.ireturn, 1) := by decide +kernel
theorem iniW : Cond.initialized "MovedRegistersLaw" ∈ mT := (mT_1 (i := 0) rfl rfl)
theorem dW_0 : decode code 0 = .ok (.new 8, 3) := by decide +kernel
theorem dW_3 : decode code 3 = .ok (.dup, 1) := by decide +kernel
theorem dW_4 : decode code 4 = .ok (.invokespecial 61, 3) := by decide +kernel
theorem dW_7 : decode code 7 = .ok (.astore_n 1, 1) := by decide +kernel
theorem dW_8 : decode code 8 = .ok (.new 62, 3) := by decide +kernel
theorem dW_11 : decode code 11 = .ok (.dup, 1) := by decide +kernel
theorem dW_12 : decode code 12 = .ok (.invokespecial 64, 3) := by decide +kernel
theorem dW_15 : decode code 15 = .ok (.astore_n 2, 1) := by decide +kernel
theorem dW_16 : decode code 16 = .ok (.iconst 1, 1) := by decide +kernel
theorem dW_17 : decode code 17 = .ok (.newarray .long, 2) := by decide +kernel
theorem dW_19 : decode code 19 = .ok (.astore_n 3, 1) := by decide +kernel
theorem dW_20 : decode code 20 = .ok (.iconst 0, 1) := by decide +kernel
theorem dW_21 : decode code 21 = .ok (.istore 4, 2) := by decide +kernel
theorem dW_23 : decode code 23 = .ok (.iload 4, 2) := by decide +kernel
theorem dW_25 : decode code 25 = .ok (.aload_n 0, 1) := by decide +kernel
theorem dW_26 : decode code 26 = .ok (.arraylength, 1) := by decide +kernel
theorem dW_27 : decode code 27 = .ok (.iconst 5, 1) := by decide +kernel
theorem dW_28 : decode code 28 = .ok (.isub, 1) := by decide +kernel
theorem dW_29 : decode code 29 = .ok (.if_icmp .gt (950), 3) := by decide +kernel
theorem dW_32 : decode code 32 = .ok (.aload_n 0, 1) := by decide +kernel
theorem dW_33 : decode code 33 = .ok (.iload 4, 2) := by decide +kernel
theorem dW_35 : decode code 35 = .ok (.iaload, 1) := by decide +kernel
theorem dW_36 : decode code 36 = .ok (.bipush (15), 2) := by decide +kernel
theorem dW_38 : decode code 38 = .ok (.iand, 1) := by decide +kernel
theorem dW_39 : decode code 39 = .ok (.tableswitch (934) 0 15 #[77, 145, 217, 289, 369, 437, 450, 463, 507, 575, 643, 687, 731, 787, 843, 923], 77) := by decide +kernel
theorem dW_116 : decode code 116 = .ok (.aload_n 1, 1) := by decide +kernel
theorem dW_117 : decode code 117 = .ok (.aload_n 0, 1) := by decide +kernel
theorem dW_118 : decode code 118 = .ok (.iload 4, 2) := by decide +kernel
theorem dW_120 : decode code 120 = .ok (.iconst 1, 1) := by decide +kernel
theorem dW_121 : decode code 121 = .ok (.iadd, 1) := by decide +kernel
theorem dW_122 : decode code 122 = .ok (.iaload, 1) := by decide +kernel
theorem dW_123 : decode code 123 = .ok (.aload_n 0, 1) := by decide +kernel
theorem dW_124 : decode code 124 = .ok (.iload 4, 2) := by decide +kernel
theorem dW_126 : decode code 126 = .ok (.iconst 2, 1) := by decide +kernel
theorem dW_127 : decode code 127 = .ok (.iadd, 1) := by decide +kernel
theorem dW_128 : decode code 128 = .ok (.iaload, 1) := by decide +kernel
theorem dW_129 : decode code 129 = .ok (.aload_n 3, 1) := by decide +kernel
theorem dW_130 : decode code 130 = .ok (.invokestatic 65, 3) := by decide +kernel
theorem dW_133 : decode code 133 = .ok (.istore 5, 2) := by decide +kernel
theorem dW_135 : decode code 135 = .ok (.aload_n 2, 1) := by decide +kernel
theorem dW_136 : decode code 136 = .ok (.aload_n 0, 1) := by decide +kernel
theorem dW_137 : decode code 137 = .ok (.iload 4, 2) := by decide +kernel
theorem dW_139 : decode code 139 = .ok (.iconst 1, 1) := by decide +kernel
theorem dW_140 : decode code 140 = .ok (.iadd, 1) := by decide +kernel
theorem dW_141 : decode code 141 = .ok (.iaload, 1) := by decide +kernel
theorem dW_142 : decode code 142 = .ok (.aload_n 0, 1) := by decide +kernel
theorem dW_143 : decode code 143 = .ok (.iload 4, 2) := by decide +kernel
theorem dW_145 : decode code 145 = .ok (.iconst 2, 1) := by decide +kernel
theorem dW_146 : decode code 146 = .ok (.iadd, 1) := by decide +kernel
theorem dW_147 : decode code 147 = .ok (.iaload, 1) := by decide +kernel
theorem dW_148 : decode code 148 = .ok (.invokevirtual 70, 3) := by decide +kernel
theorem dW_151 : decode code 151 = .ok (.istore 6, 2) := by decide +kernel
theorem dW_153 : decode code 153 = .ok (.aload_n 2, 1) := by decide +kernel
theorem dW_154 : decode code 154 = .ok (.invokevirtual 71, 3) := by decide +kernel
theorem dW_157 : decode code 157 = .ok (.iload 5, 2) := by decide +kernel
theorem dW_159 : decode code 159 = .ok (.if_icmp .eq (5), 3) := by decide +kernel
theorem dW_162 : decode code 162 = .ok (.iconst 0, 1) := by decide +kernel
theorem dW_163 : decode code 163 = .ok (.ireturn, 1) := by decide +kernel
theorem dW_164 : decode code 164 = .ok (.iload 5, 2) := by decide +kernel
theorem dW_166 : decode code 166 = .ok (.ifCond .ne (15), 3) := by decide +kernel
theorem dW_169 : decode code 169 = .ok (.aload_n 3, 1) := by decide +kernel
theorem dW_170 : decode code 170 = .ok (.iconst 0, 1) := by decide +kernel
theorem dW_171 : decode code 171 = .ok (.laload, 1) := by decide +kernel
theorem dW_172 : decode code 172 = .ok (.iload 6, 2) := by decide +kernel
theorem dW_174 : decode code 174 = .ok (.i2l, 1) := by decide +kernel
theorem dW_175 : decode code 175 = .ok (.lcmp, 1) := by decide +kernel
theorem dW_176 : decode code 176 = .ok (.ifCond .eq (5), 3) := by decide +kernel
theorem dW_179 : decode code 179 = .ok (.iconst 0, 1) := by decide +kernel
theorem dW_180 : decode code 180 = .ok (.ireturn, 1) := by decide +kernel
theorem dW_181 : decode code 181 = .ok (.goto (792), 3) := by decide +kernel
theorem dW_184 : decode code 184 = .ok (.aload_n 1, 1) := by decide +kernel
theorem dW_185 : decode code 185 = .ok (.aload_n 0, 1) := by decide +kernel
theorem dW_186 : decode code 186 = .ok (.iload 4, 2) := by decide +kernel
theorem dW_188 : decode code 188 = .ok (.iconst 1, 1) := by decide +kernel
theorem dW_189 : decode code 189 = .ok (.iadd, 1) := by decide +kernel
theorem dW_190 : decode code 190 = .ok (.iaload, 1) := by decide +kernel
theorem dW_191 : decode code 191 = .ok (.aload_n 0, 1) := by decide +kernel
theorem dW_192 : decode code 192 = .ok (.iload 4, 2) := by decide +kernel
theorem dW_194 : decode code 194 = .ok (.iconst 2, 1) := by decide +kernel
theorem dW_195 : decode code 195 = .ok (.iadd, 1) := by decide +kernel
theorem dW_196 : decode code 196 = .ok (.iaload, 1) := by decide +kernel
theorem dW_197 : decode code 197 = .ok (.aload_n 0, 1) := by decide +kernel
theorem dW_198 : decode code 198 = .ok (.iload 4, 2) := by decide +kernel
theorem dW_200 : decode code 200 = .ok (.iconst 3, 1) := by decide +kernel
theorem dW_201 : decode code 201 = .ok (.iadd, 1) := by decide +kernel
theorem dW_202 : decode code 202 = .ok (.iaload, 1) := by decide +kernel
theorem dW_203 : decode code 203 = .ok (.aload_n 0, 1) := by decide +kernel
theorem dW_204 : decode code 204 = .ok (.iload 4, 2) := by decide +kernel
theorem dW_206 : decode code 206 = .ok (.iconst 4, 1) := by decide +kernel
theorem dW_207 : decode code 207 = .ok (.iadd, 1) := by decide +kernel
theorem dW_208 : decode code 208 = .ok (.iaload, 1) := by decide +kernel
theorem dW_209 : decode code 209 = .ok (.invokestatic 74, 3) := by decide +kernel
theorem dW_212 : decode code 212 = .ok (.istore 5, 2) := by decide +kernel
theorem dW_214 : decode code 214 = .ok (.aload_n 2, 1) := by decide +kernel
theorem dW_215 : decode code 215 = .ok (.aload_n 0, 1) := by decide +kernel
theorem dW_216 : decode code 216 = .ok (.iload 4, 2) := by decide +kernel
theorem dW_218 : decode code 218 = .ok (.iconst 1, 1) := by decide +kernel
theorem dW_219 : decode code 219 = .ok (.iadd, 1) := by decide +kernel
theorem dW_220 : decode code 220 = .ok (.iaload, 1) := by decide +kernel
theorem dW_221 : decode code 221 = .ok (.aload_n 0, 1) := by decide +kernel
theorem dW_222 : decode code 222 = .ok (.iload 4, 2) := by decide +kernel
theorem dW_224 : decode code 224 = .ok (.iconst 2, 1) := by decide +kernel
theorem dW_225 : decode code 225 = .ok (.iadd, 1) := by decide +kernel
theorem dW_226 : decode code 226 = .ok (.iaload, 1) := by decide +kernel
theorem dW_227 : decode code 227 = .ok (.aload_n 0, 1) := by decide +kernel
theorem dW_228 : decode code 228 = .ok (.iload 4, 2) := by decide +kernel
theorem dW_230 : decode code 230 = .ok (.iconst 3, 1) := by decide +kernel
theorem dW_231 : decode code 231 = .ok (.iadd, 1) := by decide +kernel
theorem dW_232 : decode code 232 = .ok (.iaload, 1) := by decide +kernel
theorem dW_233 : decode code 233 = .ok (.aload_n 0, 1) := by decide +kernel
theorem dW_234 : decode code 234 = .ok (.iload 4, 2) := by decide +kernel
theorem dW_236 : decode code 236 = .ok (.iconst 4, 1) := by decide +kernel
theorem dW_237 : decode code 237 = .ok (.iadd, 1) := by decide +kernel
theorem dW_238 : decode code 238 = .ok (.iaload, 1) := by decide +kernel
theorem dW_239 : decode code 239 = .ok (.invokevirtual 77, 3) := by decide +kernel
theorem dW_242 : decode code 242 = .ok (.aload_n 2, 1) := by decide +kernel
theorem dW_243 : decode code 243 = .ok (.invokevirtual 71, 3) := by decide +kernel
theorem dW_246 : decode code 246 = .ok (.iload 5, 2) := by decide +kernel
theorem dW_248 : decode code 248 = .ok (.if_icmp .eq (5), 3) := by decide +kernel
theorem dW_251 : decode code 251 = .ok (.iconst 0, 1) := by decide +kernel
theorem dW_252 : decode code 252 = .ok (.ireturn, 1) := by decide +kernel
theorem dW_253 : decode code 253 = .ok (.goto (720), 3) := by decide +kernel
theorem dW_256 : decode code 256 = .ok (.aload_n 1, 1) := by decide +kernel
theorem dW_257 : decode code 257 = .ok (.aload_n 0, 1) := by decide +kernel
theorem dW_258 : decode code 258 = .ok (.iload 4, 2) := by decide +kernel
theorem dW_260 : decode code 260 = .ok (.iconst 1, 1) := by decide +kernel
theorem dW_261 : decode code 261 = .ok (.iadd, 1) := by decide +kernel
theorem dW_262 : decode code 262 = .ok (.iaload, 1) := by decide +kernel
theorem dW_263 : decode code 263 = .ok (.aload_n 0, 1) := by decide +kernel
theorem dW_264 : decode code 264 = .ok (.iload 4, 2) := by decide +kernel
theorem dW_266 : decode code 266 = .ok (.iconst 2, 1) := by decide +kernel
theorem dW_267 : decode code 267 = .ok (.iadd, 1) := by decide +kernel
theorem dW_268 : decode code 268 = .ok (.iaload, 1) := by decide +kernel
theorem dW_269 : decode code 269 = .ok (.aload_n 0, 1) := by decide +kernel
theorem dW_270 : decode code 270 = .ok (.iload 4, 2) := by decide +kernel
theorem dW_272 : decode code 272 = .ok (.iconst 3, 1) := by decide +kernel
theorem dW_273 : decode code 273 = .ok (.iadd, 1) := by decide +kernel
theorem dW_274 : decode code 274 = .ok (.iaload, 1) := by decide +kernel
theorem dW_275 : decode code 275 = .ok (.aload_n 0, 1) := by decide +kernel
theorem dW_276 : decode code 276 = .ok (.iload 4, 2) := by decide +kernel
theorem dW_278 : decode code 278 = .ok (.iconst 4, 1) := by decide +kernel
theorem dW_279 : decode code 279 = .ok (.iadd, 1) := by decide +kernel
theorem dW_280 : decode code 280 = .ok (.iaload, 1) := by decide +kernel
theorem dW_281 : decode code 281 = .ok (.invokestatic 78, 3) := by decide +kernel
theorem dW_284 : decode code 284 = .ok (.istore 5, 2) := by decide +kernel
theorem dW_286 : decode code 286 = .ok (.aload_n 2, 1) := by decide +kernel
theorem dW_287 : decode code 287 = .ok (.aload_n 0, 1) := by decide +kernel
theorem dW_288 : decode code 288 = .ok (.iload 4, 2) := by decide +kernel
theorem dW_290 : decode code 290 = .ok (.iconst 1, 1) := by decide +kernel
theorem dW_291 : decode code 291 = .ok (.iadd, 1) := by decide +kernel
theorem dW_292 : decode code 292 = .ok (.iaload, 1) := by decide +kernel
theorem dW_293 : decode code 293 = .ok (.aload_n 0, 1) := by decide +kernel
theorem dW_294 : decode code 294 = .ok (.iload 4, 2) := by decide +kernel
theorem dW_296 : decode code 296 = .ok (.iconst 2, 1) := by decide +kernel
theorem dW_297 : decode code 297 = .ok (.iadd, 1) := by decide +kernel
theorem dW_298 : decode code 298 = .ok (.iaload, 1) := by decide +kernel
theorem dW_299 : decode code 299 = .ok (.aload_n 0, 1) := by decide +kernel
theorem dW_300 : decode code 300 = .ok (.iload 4, 2) := by decide +kernel
theorem dW_302 : decode code 302 = .ok (.iconst 3, 1) := by decide +kernel
theorem dW_303 : decode code 303 = .ok (.iadd, 1) := by decide +kernel
theorem dW_304 : decode code 304 = .ok (.iaload, 1) := by decide +kernel
theorem dW_305 : decode code 305 = .ok (.aload_n 0, 1) := by decide +kernel
theorem dW_306 : decode code 306 = .ok (.iload 4, 2) := by decide +kernel
theorem dW_308 : decode code 308 = .ok (.iconst 4, 1) := by decide +kernel
theorem dW_309 : decode code 309 = .ok (.iadd, 1) := by decide +kernel
theorem dW_310 : decode code 310 = .ok (.iaload, 1) := by decide +kernel
theorem dW_311 : decode code 311 = .ok (.invokevirtual 80, 3) := by decide +kernel
theorem dW_314 : decode code 314 = .ok (.aload_n 2, 1) := by decide +kernel
theorem dW_315 : decode code 315 = .ok (.invokevirtual 71, 3) := by decide +kernel
theorem dW_318 : decode code 318 = .ok (.iload 5, 2) := by decide +kernel
theorem dW_320 : decode code 320 = .ok (.if_icmp .eq (5), 3) := by decide +kernel
theorem dW_323 : decode code 323 = .ok (.iconst 0, 1) := by decide +kernel
theorem dW_324 : decode code 324 = .ok (.ireturn, 1) := by decide +kernel
theorem dW_325 : decode code 325 = .ok (.goto (648), 3) := by decide +kernel
theorem dW_328 : decode code 328 = .ok (.aload_n 1, 1) := by decide +kernel
theorem dW_329 : decode code 329 = .ok (.aload_n 0, 1) := by decide +kernel
theorem dW_330 : decode code 330 = .ok (.iload 4, 2) := by decide +kernel
theorem dW_332 : decode code 332 = .ok (.iconst 1, 1) := by decide +kernel
theorem dW_333 : decode code 333 = .ok (.iadd, 1) := by decide +kernel
theorem dW_334 : decode code 334 = .ok (.iaload, 1) := by decide +kernel
theorem dW_335 : decode code 335 = .ok (.aload_n 0, 1) := by decide +kernel
theorem dW_336 : decode code 336 = .ok (.iload 4, 2) := by decide +kernel
theorem dW_338 : decode code 338 = .ok (.iconst 2, 1) := by decide +kernel
theorem dW_339 : decode code 339 = .ok (.iadd, 1) := by decide +kernel
theorem dW_340 : decode code 340 = .ok (.iaload, 1) := by decide +kernel
theorem dW_341 : decode code 341 = .ok (.aload_n 0, 1) := by decide +kernel
theorem dW_342 : decode code 342 = .ok (.iload 4, 2) := by decide +kernel
theorem dW_344 : decode code 344 = .ok (.iconst 3, 1) := by decide +kernel
theorem dW_345 : decode code 345 = .ok (.iadd, 1) := by decide +kernel
theorem dW_346 : decode code 346 = .ok (.iaload, 1) := by decide +kernel
theorem dW_347 : decode code 347 = .ok (.aload_n 3, 1) := by decide +kernel
theorem dW_348 : decode code 348 = .ok (.invokestatic 81, 3) := by decide +kernel
theorem dW_351 : decode code 351 = .ok (.istore 5, 2) := by decide +kernel
theorem dW_353 : decode code 353 = .ok (.aload_n 2, 1) := by decide +kernel
theorem dW_354 : decode code 354 = .ok (.aload_n 0, 1) := by decide +kernel
theorem dW_355 : decode code 355 = .ok (.iload 4, 2) := by decide +kernel
theorem dW_357 : decode code 357 = .ok (.iconst 1, 1) := by decide +kernel
theorem dW_358 : decode code 358 = .ok (.iadd, 1) := by decide +kernel
theorem dW_359 : decode code 359 = .ok (.iaload, 1) := by decide +kernel
theorem dW_360 : decode code 360 = .ok (.aload_n 0, 1) := by decide +kernel
theorem dW_361 : decode code 361 = .ok (.iload 4, 2) := by decide +kernel
theorem dW_363 : decode code 363 = .ok (.iconst 2, 1) := by decide +kernel
theorem dW_364 : decode code 364 = .ok (.iadd, 1) := by decide +kernel
theorem dW_365 : decode code 365 = .ok (.iaload, 1) := by decide +kernel
theorem dW_366 : decode code 366 = .ok (.aload_n 0, 1) := by decide +kernel
theorem dW_367 : decode code 367 = .ok (.iload 4, 2) := by decide +kernel
theorem dW_369 : decode code 369 = .ok (.iconst 3, 1) := by decide +kernel
theorem dW_370 : decode code 370 = .ok (.iadd, 1) := by decide +kernel
theorem dW_371 : decode code 371 = .ok (.iaload, 1) := by decide +kernel
theorem dW_372 : decode code 372 = .ok (.invokevirtual 84, 3) := by decide +kernel
theorem dW_375 : decode code 375 = .ok (.istore 6, 2) := by decide +kernel
theorem dW_377 : decode code 377 = .ok (.aload_n 2, 1) := by decide +kernel
theorem dW_378 : decode code 378 = .ok (.invokevirtual 71, 3) := by decide +kernel
theorem dW_381 : decode code 381 = .ok (.iload 5, 2) := by decide +kernel
theorem dW_383 : decode code 383 = .ok (.if_icmp .eq (5), 3) := by decide +kernel
theorem dW_386 : decode code 386 = .ok (.iconst 0, 1) := by decide +kernel
theorem dW_387 : decode code 387 = .ok (.ireturn, 1) := by decide +kernel
theorem dW_388 : decode code 388 = .ok (.iload 5, 2) := by decide +kernel
theorem dW_390 : decode code 390 = .ok (.ifCond .ne (15), 3) := by decide +kernel
theorem dW_393 : decode code 393 = .ok (.aload_n 3, 1) := by decide +kernel
theorem dW_394 : decode code 394 = .ok (.iconst 0, 1) := by decide +kernel
theorem dW_395 : decode code 395 = .ok (.laload, 1) := by decide +kernel
theorem dW_396 : decode code 396 = .ok (.iload 6, 2) := by decide +kernel
theorem dW_398 : decode code 398 = .ok (.i2l, 1) := by decide +kernel
theorem dW_399 : decode code 399 = .ok (.lcmp, 1) := by decide +kernel
theorem dW_400 : decode code 400 = .ok (.ifCond .eq (5), 3) := by decide +kernel
theorem dW_403 : decode code 403 = .ok (.iconst 0, 1) := by decide +kernel
theorem dW_404 : decode code 404 = .ok (.ireturn, 1) := by decide +kernel
theorem dW_405 : decode code 405 = .ok (.goto (568), 3) := by decide +kernel
theorem dW_408 : decode code 408 = .ok (.aload_n 1, 1) := by decide +kernel
theorem dW_409 : decode code 409 = .ok (.aload_n 0, 1) := by decide +kernel
theorem dW_410 : decode code 410 = .ok (.iload 4, 2) := by decide +kernel
theorem dW_412 : decode code 412 = .ok (.iconst 1, 1) := by decide +kernel
theorem dW_413 : decode code 413 = .ok (.iadd, 1) := by decide +kernel
theorem dW_414 : decode code 414 = .ok (.iaload, 1) := by decide +kernel
theorem dW_415 : decode code 415 = .ok (.aload_n 0, 1) := by decide +kernel
theorem dW_416 : decode code 416 = .ok (.iload 4, 2) := by decide +kernel
theorem dW_418 : decode code 418 = .ok (.iconst 2, 1) := by decide +kernel
theorem dW_419 : decode code 419 = .ok (.iadd, 1) := by decide +kernel
theorem dW_420 : decode code 420 = .ok (.iaload, 1) := by decide +kernel
theorem dW_421 : decode code 421 = .ok (.aload_n 3, 1) := by decide +kernel
theorem dW_422 : decode code 422 = .ok (.invokestatic 85, 3) := by decide +kernel
theorem dW_425 : decode code 425 = .ok (.istore 5, 2) := by decide +kernel
theorem dW_427 : decode code 427 = .ok (.aload_n 2, 1) := by decide +kernel
theorem dW_428 : decode code 428 = .ok (.aload_n 0, 1) := by decide +kernel
theorem dW_429 : decode code 429 = .ok (.iload 4, 2) := by decide +kernel
theorem dW_431 : decode code 431 = .ok (.iconst 1, 1) := by decide +kernel
theorem dW_432 : decode code 432 = .ok (.iadd, 1) := by decide +kernel
theorem dW_433 : decode code 433 = .ok (.iaload, 1) := by decide +kernel
theorem dW_434 : decode code 434 = .ok (.aload_n 0, 1) := by decide +kernel
theorem dW_435 : decode code 435 = .ok (.iload 4, 2) := by decide +kernel
theorem dW_437 : decode code 437 = .ok (.iconst 2, 1) := by decide +kernel
theorem dW_438 : decode code 438 = .ok (.iadd, 1) := by decide +kernel
theorem dW_439 : decode code 439 = .ok (.iaload, 1) := by decide +kernel
theorem dW_440 : decode code 440 = .ok (.invokevirtual 87, 3) := by decide +kernel
theorem dW_443 : decode code 443 = .ok (.istore 6, 2) := by decide +kernel
theorem dW_445 : decode code 445 = .ok (.aload_n 2, 1) := by decide +kernel
theorem dW_446 : decode code 446 = .ok (.invokevirtual 71, 3) := by decide +kernel
theorem dW_449 : decode code 449 = .ok (.iload 5, 2) := by decide +kernel
theorem dW_451 : decode code 451 = .ok (.if_icmp .eq (5), 3) := by decide +kernel
theorem dW_454 : decode code 454 = .ok (.iconst 0, 1) := by decide +kernel
theorem dW_455 : decode code 455 = .ok (.ireturn, 1) := by decide +kernel
theorem dW_456 : decode code 456 = .ok (.iload 5, 2) := by decide +kernel
theorem dW_458 : decode code 458 = .ok (.ifCond .ne (15), 3) := by decide +kernel
theorem dW_461 : decode code 461 = .ok (.aload_n 3, 1) := by decide +kernel
theorem dW_462 : decode code 462 = .ok (.iconst 0, 1) := by decide +kernel
theorem dW_463 : decode code 463 = .ok (.laload, 1) := by decide +kernel
theorem dW_464 : decode code 464 = .ok (.iload 6, 2) := by decide +kernel
theorem dW_466 : decode code 466 = .ok (.i2l, 1) := by decide +kernel
theorem dW_467 : decode code 467 = .ok (.lcmp, 1) := by decide +kernel
theorem dW_468 : decode code 468 = .ok (.ifCond .eq (5), 3) := by decide +kernel
theorem dW_471 : decode code 471 = .ok (.iconst 0, 1) := by decide +kernel
theorem dW_472 : decode code 472 = .ok (.ireturn, 1) := by decide +kernel
theorem dW_473 : decode code 473 = .ok (.goto (500), 3) := by decide +kernel
theorem dW_476 : decode code 476 = .ok (.aload_n 1, 1) := by decide +kernel
theorem dW_477 : decode code 477 = .ok (.invokevirtual 88, 3) := by decide +kernel
theorem dW_480 : decode code 480 = .ok (.aload_n 2, 1) := by decide +kernel
theorem dW_481 : decode code 481 = .ok (.invokevirtual 91, 3) := by decide +kernel
theorem dW_484 : decode code 484 = .ok (.if_icmp .eq (489), 3) := by decide +kernel
theorem dW_487 : decode code 487 = .ok (.iconst 0, 1) := by decide +kernel
theorem dW_488 : decode code 488 = .ok (.ireturn, 1) := by decide +kernel
theorem dW_489 : decode code 489 = .ok (.aload_n 1, 1) := by decide +kernel
theorem dW_490 : decode code 490 = .ok (.invokevirtual 92, 3) := by decide +kernel
theorem dW_493 : decode code 493 = .ok (.aload_n 2, 1) := by decide +kernel
theorem dW_494 : decode code 494 = .ok (.invokevirtual 96, 3) := by decide +kernel
theorem dW_497 : decode code 497 = .ok (.if_icmp .eq (476), 3) := by decide +kernel
theorem dW_500 : decode code 500 = .ok (.iconst 0, 1) := by decide +kernel
theorem dW_501 : decode code 501 = .ok (.ireturn, 1) := by decide +kernel
theorem dW_502 : decode code 502 = .ok (.aload_n 1, 1) := by decide +kernel
theorem dW_503 : decode code 503 = .ok (.aload_n 3, 1) := by decide +kernel
theorem dW_504 : decode code 504 = .ok (.invokestatic 97, 3) := by decide +kernel
theorem dW_507 : decode code 507 = .ok (.istore 5, 2) := by decide +kernel
theorem dW_509 : decode code 509 = .ok (.aload_n 2, 1) := by decide +kernel
theorem dW_510 : decode code 510 = .ok (.invokevirtual 100, 3) := by decide +kernel
theorem dW_513 : decode code 513 = .ok (.istore 6, 2) := by decide +kernel
theorem dW_515 : decode code 515 = .ok (.aload_n 2, 1) := by decide +kernel
theorem dW_516 : decode code 516 = .ok (.invokevirtual 71, 3) := by decide +kernel
theorem dW_519 : decode code 519 = .ok (.iload 5, 2) := by decide +kernel
theorem dW_521 : decode code 521 = .ok (.if_icmp .eq (5), 3) := by decide +kernel
theorem dW_524 : decode code 524 = .ok (.iconst 0, 1) := by decide +kernel
theorem dW_525 : decode code 525 = .ok (.ireturn, 1) := by decide +kernel
theorem dW_526 : decode code 526 = .ok (.iload 5, 2) := by decide +kernel
theorem dW_528 : decode code 528 = .ok (.ifCond .ne (15), 3) := by decide +kernel
theorem dW_531 : decode code 531 = .ok (.aload_n 3, 1) := by decide +kernel
theorem dW_532 : decode code 532 = .ok (.iconst 0, 1) := by decide +kernel
theorem dW_533 : decode code 533 = .ok (.laload, 1) := by decide +kernel
theorem dW_534 : decode code 534 = .ok (.iload 6, 2) := by decide +kernel
theorem dW_536 : decode code 536 = .ok (.i2l, 1) := by decide +kernel
theorem dW_537 : decode code 537 = .ok (.lcmp, 1) := by decide +kernel
theorem dW_538 : decode code 538 = .ok (.ifCond .eq (5), 3) := by decide +kernel
theorem dW_541 : decode code 541 = .ok (.iconst 0, 1) := by decide +kernel
theorem dW_542 : decode code 542 = .ok (.ireturn, 1) := by decide +kernel
theorem dW_543 : decode code 543 = .ok (.goto (430), 3) := by decide +kernel
theorem dW_546 : decode code 546 = .ok (.aload_n 1, 1) := by decide +kernel
theorem dW_547 : decode code 547 = .ok (.aload_n 0, 1) := by decide +kernel
theorem dW_548 : decode code 548 = .ok (.iload 4, 2) := by decide +kernel
theorem dW_550 : decode code 550 = .ok (.iconst 1, 1) := by decide +kernel
theorem dW_551 : decode code 551 = .ok (.iadd, 1) := by decide +kernel
theorem dW_552 : decode code 552 = .ok (.iaload, 1) := by decide +kernel
theorem dW_553 : decode code 553 = .ok (.aload_n 0, 1) := by decide +kernel
theorem dW_554 : decode code 554 = .ok (.iload 4, 2) := by decide +kernel
theorem dW_556 : decode code 556 = .ok (.iconst 2, 1) := by decide +kernel
theorem dW_557 : decode code 557 = .ok (.iadd, 1) := by decide +kernel
theorem dW_558 : decode code 558 = .ok (.iaload, 1) := by decide +kernel
theorem dW_559 : decode code 559 = .ok (.aload_n 3, 1) := by decide +kernel
theorem dW_560 : decode code 560 = .ok (.invokestatic 101, 3) := by decide +kernel
theorem dW_563 : decode code 563 = .ok (.istore 5, 2) := by decide +kernel
theorem dW_565 : decode code 565 = .ok (.aload_n 2, 1) := by decide +kernel
theorem dW_566 : decode code 566 = .ok (.aload_n 0, 1) := by decide +kernel
theorem dW_567 : decode code 567 = .ok (.iload 4, 2) := by decide +kernel
theorem dW_569 : decode code 569 = .ok (.iconst 1, 1) := by decide +kernel
theorem dW_570 : decode code 570 = .ok (.iadd, 1) := by decide +kernel
theorem dW_571 : decode code 571 = .ok (.iaload, 1) := by decide +kernel
theorem dW_572 : decode code 572 = .ok (.aload_n 0, 1) := by decide +kernel
theorem dW_573 : decode code 573 = .ok (.iload 4, 2) := by decide +kernel
theorem dW_575 : decode code 575 = .ok (.iconst 2, 1) := by decide +kernel
theorem dW_576 : decode code 576 = .ok (.iadd, 1) := by decide +kernel
theorem dW_577 : decode code 577 = .ok (.iaload, 1) := by decide +kernel
theorem dW_578 : decode code 578 = .ok (.invokevirtual 103, 3) := by decide +kernel
theorem dW_581 : decode code 581 = .ok (.istore 6, 2) := by decide +kernel
theorem dW_583 : decode code 583 = .ok (.aload_n 2, 1) := by decide +kernel
theorem dW_584 : decode code 584 = .ok (.invokevirtual 71, 3) := by decide +kernel
theorem dW_587 : decode code 587 = .ok (.iload 5, 2) := by decide +kernel
theorem dW_589 : decode code 589 = .ok (.if_icmp .eq (5), 3) := by decide +kernel
theorem dW_592 : decode code 592 = .ok (.iconst 0, 1) := by decide +kernel
theorem dW_593 : decode code 593 = .ok (.ireturn, 1) := by decide +kernel
theorem dW_594 : decode code 594 = .ok (.iload 5, 2) := by decide +kernel
theorem dW_596 : decode code 596 = .ok (.ifCond .ne (15), 3) := by decide +kernel
theorem dW_599 : decode code 599 = .ok (.aload_n 3, 1) := by decide +kernel
theorem dW_600 : decode code 600 = .ok (.iconst 0, 1) := by decide +kernel
theorem dW_601 : decode code 601 = .ok (.laload, 1) := by decide +kernel
theorem dW_602 : decode code 602 = .ok (.iload 6, 2) := by decide +kernel
theorem dW_604 : decode code 604 = .ok (.i2l, 1) := by decide +kernel
theorem dW_605 : decode code 605 = .ok (.lcmp, 1) := by decide +kernel
theorem dW_606 : decode code 606 = .ok (.ifCond .eq (5), 3) := by decide +kernel
theorem dW_609 : decode code 609 = .ok (.iconst 0, 1) := by decide +kernel
theorem dW_610 : decode code 610 = .ok (.ireturn, 1) := by decide +kernel
theorem dW_611 : decode code 611 = .ok (.goto (362), 3) := by decide +kernel
theorem dW_614 : decode code 614 = .ok (.aload_n 1, 1) := by decide +kernel
theorem dW_615 : decode code 615 = .ok (.aload_n 0, 1) := by decide +kernel
theorem dW_616 : decode code 616 = .ok (.iload 4, 2) := by decide +kernel
theorem dW_618 : decode code 618 = .ok (.iconst 1, 1) := by decide +kernel
theorem dW_619 : decode code 619 = .ok (.iadd, 1) := by decide +kernel
theorem dW_620 : decode code 620 = .ok (.iaload, 1) := by decide +kernel
theorem dW_621 : decode code 621 = .ok (.aload_n 0, 1) := by decide +kernel
theorem dW_622 : decode code 622 = .ok (.iload 4, 2) := by decide +kernel
theorem dW_624 : decode code 624 = .ok (.iconst 2, 1) := by decide +kernel
theorem dW_625 : decode code 625 = .ok (.iadd, 1) := by decide +kernel
theorem dW_626 : decode code 626 = .ok (.iaload, 1) := by decide +kernel
theorem dW_627 : decode code 627 = .ok (.aload_n 3, 1) := by decide +kernel
theorem dW_628 : decode code 628 = .ok (.invokestatic 104, 3) := by decide +kernel
theorem dW_631 : decode code 631 = .ok (.istore 5, 2) := by decide +kernel
theorem dW_633 : decode code 633 = .ok (.aload_n 2, 1) := by decide +kernel
theorem dW_634 : decode code 634 = .ok (.aload_n 0, 1) := by decide +kernel
theorem dW_635 : decode code 635 = .ok (.iload 4, 2) := by decide +kernel
theorem dW_637 : decode code 637 = .ok (.iconst 1, 1) := by decide +kernel
theorem dW_638 : decode code 638 = .ok (.iadd, 1) := by decide +kernel
theorem dW_639 : decode code 639 = .ok (.iaload, 1) := by decide +kernel
theorem dW_640 : decode code 640 = .ok (.aload_n 0, 1) := by decide +kernel
theorem dW_641 : decode code 641 = .ok (.iload 4, 2) := by decide +kernel
theorem dW_643 : decode code 643 = .ok (.iconst 2, 1) := by decide +kernel
theorem dW_644 : decode code 644 = .ok (.iadd, 1) := by decide +kernel
theorem dW_645 : decode code 645 = .ok (.iaload, 1) := by decide +kernel
theorem dW_646 : decode code 646 = .ok (.invokevirtual 106, 3) := by decide +kernel
theorem dW_649 : decode code 649 = .ok (.istore 6, 2) := by decide +kernel
theorem dW_651 : decode code 651 = .ok (.aload_n 2, 1) := by decide +kernel
theorem dW_652 : decode code 652 = .ok (.invokevirtual 71, 3) := by decide +kernel
theorem dW_655 : decode code 655 = .ok (.iload 5, 2) := by decide +kernel
theorem dW_657 : decode code 657 = .ok (.if_icmp .eq (5), 3) := by decide +kernel
theorem dW_660 : decode code 660 = .ok (.iconst 0, 1) := by decide +kernel
theorem dW_661 : decode code 661 = .ok (.ireturn, 1) := by decide +kernel
theorem dW_662 : decode code 662 = .ok (.iload 5, 2) := by decide +kernel
theorem dW_664 : decode code 664 = .ok (.ifCond .ne (15), 3) := by decide +kernel
theorem dW_667 : decode code 667 = .ok (.aload_n 3, 1) := by decide +kernel
theorem dW_668 : decode code 668 = .ok (.iconst 0, 1) := by decide +kernel
theorem dW_669 : decode code 669 = .ok (.laload, 1) := by decide +kernel
theorem dW_670 : decode code 670 = .ok (.iload 6, 2) := by decide +kernel
theorem dW_672 : decode code 672 = .ok (.i2l, 1) := by decide +kernel
theorem dW_673 : decode code 673 = .ok (.lcmp, 1) := by decide +kernel
theorem dW_674 : decode code 674 = .ok (.ifCond .eq (5), 3) := by decide +kernel
theorem dW_677 : decode code 677 = .ok (.iconst 0, 1) := by decide +kernel
theorem dW_678 : decode code 678 = .ok (.ireturn, 1) := by decide +kernel
theorem dW_679 : decode code 679 = .ok (.goto (294), 3) := by decide +kernel
theorem dW_682 : decode code 682 = .ok (.aload_n 1, 1) := by decide +kernel
theorem dW_683 : decode code 683 = .ok (.aload_n 3, 1) := by decide +kernel
theorem dW_684 : decode code 684 = .ok (.invokestatic 107, 3) := by decide +kernel
theorem dW_687 : decode code 687 = .ok (.istore 5, 2) := by decide +kernel
theorem dW_689 : decode code 689 = .ok (.aload_n 2, 1) := by decide +kernel
theorem dW_690 : decode code 690 = .ok (.invokevirtual 109, 3) := by decide +kernel
theorem dW_693 : decode code 693 = .ok (.istore 6, 2) := by decide +kernel
theorem dW_695 : decode code 695 = .ok (.aload_n 2, 1) := by decide +kernel
theorem dW_696 : decode code 696 = .ok (.invokevirtual 71, 3) := by decide +kernel
theorem dW_699 : decode code 699 = .ok (.iload 5, 2) := by decide +kernel
theorem dW_701 : decode code 701 = .ok (.if_icmp .eq (5), 3) := by decide +kernel
theorem dW_704 : decode code 704 = .ok (.iconst 0, 1) := by decide +kernel
theorem dW_705 : decode code 705 = .ok (.ireturn, 1) := by decide +kernel
theorem dW_706 : decode code 706 = .ok (.iload 5, 2) := by decide +kernel
theorem dW_708 : decode code 708 = .ok (.ifCond .ne (15), 3) := by decide +kernel
theorem dW_711 : decode code 711 = .ok (.aload_n 3, 1) := by decide +kernel
theorem dW_712 : decode code 712 = .ok (.iconst 0, 1) := by decide +kernel
theorem dW_713 : decode code 713 = .ok (.laload, 1) := by decide +kernel
theorem dW_714 : decode code 714 = .ok (.iload 6, 2) := by decide +kernel
theorem dW_716 : decode code 716 = .ok (.i2l, 1) := by decide +kernel
theorem dW_717 : decode code 717 = .ok (.lcmp, 1) := by decide +kernel
theorem dW_718 : decode code 718 = .ok (.ifCond .eq (5), 3) := by decide +kernel
theorem dW_721 : decode code 721 = .ok (.iconst 0, 1) := by decide +kernel
theorem dW_722 : decode code 722 = .ok (.ireturn, 1) := by decide +kernel
theorem dW_723 : decode code 723 = .ok (.goto (250), 3) := by decide +kernel
theorem dW_726 : decode code 726 = .ok (.aload_n 1, 1) := by decide +kernel
theorem dW_727 : decode code 727 = .ok (.aload_n 3, 1) := by decide +kernel
theorem dW_728 : decode code 728 = .ok (.invokestatic 110, 3) := by decide +kernel
theorem dW_731 : decode code 731 = .ok (.istore 5, 2) := by decide +kernel
theorem dW_733 : decode code 733 = .ok (.aload_n 2, 1) := by decide +kernel
theorem dW_734 : decode code 734 = .ok (.invokevirtual 112, 3) := by decide +kernel
theorem dW_737 : decode code 737 = .ok (.istore 6, 2) := by decide +kernel
theorem dW_739 : decode code 739 = .ok (.aload_n 2, 1) := by decide +kernel
theorem dW_740 : decode code 740 = .ok (.invokevirtual 71, 3) := by decide +kernel
theorem dW_743 : decode code 743 = .ok (.iload 5, 2) := by decide +kernel
theorem dW_745 : decode code 745 = .ok (.if_icmp .eq (5), 3) := by decide +kernel
theorem dW_748 : decode code 748 = .ok (.iconst 0, 1) := by decide +kernel
theorem dW_749 : decode code 749 = .ok (.ireturn, 1) := by decide +kernel
theorem dW_750 : decode code 750 = .ok (.iload 5, 2) := by decide +kernel
theorem dW_752 : decode code 752 = .ok (.ifCond .ne (15), 3) := by decide +kernel
theorem dW_755 : decode code 755 = .ok (.aload_n 3, 1) := by decide +kernel
theorem dW_756 : decode code 756 = .ok (.iconst 0, 1) := by decide +kernel
theorem dW_757 : decode code 757 = .ok (.laload, 1) := by decide +kernel
theorem dW_758 : decode code 758 = .ok (.iload 6, 2) := by decide +kernel
theorem dW_760 : decode code 760 = .ok (.i2l, 1) := by decide +kernel
theorem dW_761 : decode code 761 = .ok (.lcmp, 1) := by decide +kernel
theorem dW_762 : decode code 762 = .ok (.ifCond .eq (5), 3) := by decide +kernel
theorem dW_765 : decode code 765 = .ok (.iconst 0, 1) := by decide +kernel
theorem dW_766 : decode code 766 = .ok (.ireturn, 1) := by decide +kernel
theorem dW_767 : decode code 767 = .ok (.goto (206), 3) := by decide +kernel
theorem dW_770 : decode code 770 = .ok (.aload_n 1, 1) := by decide +kernel
theorem dW_771 : decode code 771 = .ok (.aload_n 0, 1) := by decide +kernel
theorem dW_772 : decode code 772 = .ok (.iload 4, 2) := by decide +kernel
theorem dW_774 : decode code 774 = .ok (.iconst 1, 1) := by decide +kernel
theorem dW_775 : decode code 775 = .ok (.iadd, 1) := by decide +kernel
theorem dW_776 : decode code 776 = .ok (.iaload, 1) := by decide +kernel
theorem dW_777 : decode code 777 = .ok (.aload_n 3, 1) := by decide +kernel
theorem dW_778 : decode code 778 = .ok (.invokestatic 113, 3) := by decide +kernel
theorem dW_781 : decode code 781 = .ok (.istore 5, 2) := by decide +kernel
theorem dW_783 : decode code 783 = .ok (.aload_n 2, 1) := by decide +kernel
theorem dW_784 : decode code 784 = .ok (.aload_n 0, 1) := by decide +kernel
theorem dW_785 : decode code 785 = .ok (.iload 4, 2) := by decide +kernel
theorem dW_787 : decode code 787 = .ok (.iconst 1, 1) := by decide +kernel
theorem dW_788 : decode code 788 = .ok (.iadd, 1) := by decide +kernel
theorem dW_789 : decode code 789 = .ok (.iaload, 1) := by decide +kernel
theorem dW_790 : decode code 790 = .ok (.invokevirtual 116, 3) := by decide +kernel
theorem dW_793 : decode code 793 = .ok (.istore 6, 2) := by decide +kernel
theorem dW_795 : decode code 795 = .ok (.aload_n 2, 1) := by decide +kernel
theorem dW_796 : decode code 796 = .ok (.invokevirtual 71, 3) := by decide +kernel
theorem dW_799 : decode code 799 = .ok (.iload 5, 2) := by decide +kernel
theorem dW_801 : decode code 801 = .ok (.if_icmp .eq (5), 3) := by decide +kernel
theorem dW_804 : decode code 804 = .ok (.iconst 0, 1) := by decide +kernel
theorem dW_805 : decode code 805 = .ok (.ireturn, 1) := by decide +kernel
theorem dW_806 : decode code 806 = .ok (.iload 5, 2) := by decide +kernel
theorem dW_808 : decode code 808 = .ok (.ifCond .ne (15), 3) := by decide +kernel
theorem dW_811 : decode code 811 = .ok (.aload_n 3, 1) := by decide +kernel
theorem dW_812 : decode code 812 = .ok (.iconst 0, 1) := by decide +kernel
theorem dW_813 : decode code 813 = .ok (.laload, 1) := by decide +kernel
theorem dW_814 : decode code 814 = .ok (.iload 6, 2) := by decide +kernel
theorem dW_816 : decode code 816 = .ok (.i2l, 1) := by decide +kernel
theorem dW_817 : decode code 817 = .ok (.lcmp, 1) := by decide +kernel
theorem dW_818 : decode code 818 = .ok (.ifCond .eq (5), 3) := by decide +kernel
theorem dW_821 : decode code 821 = .ok (.iconst 0, 1) := by decide +kernel
theorem dW_822 : decode code 822 = .ok (.ireturn, 1) := by decide +kernel
theorem dW_823 : decode code 823 = .ok (.goto (150), 3) := by decide +kernel
theorem dW_826 : decode code 826 = .ok (.aload_n 1, 1) := by decide +kernel
theorem dW_827 : decode code 827 = .ok (.aload_n 0, 1) := by decide +kernel
theorem dW_828 : decode code 828 = .ok (.iload 4, 2) := by decide +kernel
theorem dW_830 : decode code 830 = .ok (.iconst 1, 1) := by decide +kernel
theorem dW_831 : decode code 831 = .ok (.iadd, 1) := by decide +kernel
theorem dW_832 : decode code 832 = .ok (.iaload, 1) := by decide +kernel
theorem dW_833 : decode code 833 = .ok (.aload_n 3, 1) := by decide +kernel
theorem dW_834 : decode code 834 = .ok (.invokestatic 117, 3) := by decide +kernel
theorem dW_837 : decode code 837 = .ok (.istore 5, 2) := by decide +kernel
theorem dW_839 : decode code 839 = .ok (.aload_n 2, 1) := by decide +kernel
theorem dW_840 : decode code 840 = .ok (.aload_n 0, 1) := by decide +kernel
theorem dW_841 : decode code 841 = .ok (.iload 4, 2) := by decide +kernel
theorem dW_843 : decode code 843 = .ok (.iconst 1, 1) := by decide +kernel
theorem dW_844 : decode code 844 = .ok (.iadd, 1) := by decide +kernel
theorem dW_845 : decode code 845 = .ok (.iaload, 1) := by decide +kernel
theorem dW_846 : decode code 846 = .ok (.invokevirtual 119, 3) := by decide +kernel
theorem dW_849 : decode code 849 = .ok (.istore 6, 2) := by decide +kernel
theorem dW_851 : decode code 851 = .ok (.aload_n 2, 1) := by decide +kernel
theorem dW_852 : decode code 852 = .ok (.invokevirtual 71, 3) := by decide +kernel
theorem dW_855 : decode code 855 = .ok (.iload 5, 2) := by decide +kernel
theorem dW_857 : decode code 857 = .ok (.if_icmp .eq (5), 3) := by decide +kernel
theorem dW_860 : decode code 860 = .ok (.iconst 0, 1) := by decide +kernel
theorem dW_861 : decode code 861 = .ok (.ireturn, 1) := by decide +kernel
theorem dW_862 : decode code 862 = .ok (.iload 5, 2) := by decide +kernel
theorem dW_864 : decode code 864 = .ok (.ifCond .ne (15), 3) := by decide +kernel
theorem dW_867 : decode code 867 = .ok (.aload_n 3, 1) := by decide +kernel
theorem dW_868 : decode code 868 = .ok (.iconst 0, 1) := by decide +kernel
theorem dW_869 : decode code 869 = .ok (.laload, 1) := by decide +kernel
theorem dW_870 : decode code 870 = .ok (.iload 6, 2) := by decide +kernel
theorem dW_872 : decode code 872 = .ok (.i2l, 1) := by decide +kernel
theorem dW_873 : decode code 873 = .ok (.lcmp, 1) := by decide +kernel
theorem dW_874 : decode code 874 = .ok (.ifCond .eq (5), 3) := by decide +kernel
theorem dW_877 : decode code 877 = .ok (.iconst 0, 1) := by decide +kernel
theorem dW_878 : decode code 878 = .ok (.ireturn, 1) := by decide +kernel
theorem dW_879 : decode code 879 = .ok (.goto (94), 3) := by decide +kernel
theorem dW_882 : decode code 882 = .ok (.aload_n 1, 1) := by decide +kernel
theorem dW_883 : decode code 883 = .ok (.aload_n 0, 1) := by decide +kernel
theorem dW_884 : decode code 884 = .ok (.iload 4, 2) := by decide +kernel
theorem dW_886 : decode code 886 = .ok (.iconst 1, 1) := by decide +kernel
theorem dW_887 : decode code 887 = .ok (.iadd, 1) := by decide +kernel
theorem dW_888 : decode code 888 = .ok (.iaload, 1) := by decide +kernel
theorem dW_889 : decode code 889 = .ok (.aload_n 0, 1) := by decide +kernel
theorem dW_890 : decode code 890 = .ok (.iload 4, 2) := by decide +kernel
theorem dW_892 : decode code 892 = .ok (.iconst 2, 1) := by decide +kernel
theorem dW_893 : decode code 893 = .ok (.iadd, 1) := by decide +kernel
theorem dW_894 : decode code 894 = .ok (.iaload, 1) := by decide +kernel
theorem dW_895 : decode code 895 = .ok (.aload_n 0, 1) := by decide +kernel
theorem dW_896 : decode code 896 = .ok (.iload 4, 2) := by decide +kernel
theorem dW_898 : decode code 898 = .ok (.iconst 3, 1) := by decide +kernel
theorem dW_899 : decode code 899 = .ok (.iadd, 1) := by decide +kernel
theorem dW_900 : decode code 900 = .ok (.iaload, 1) := by decide +kernel
theorem dW_901 : decode code 901 = .ok (.aload_n 3, 1) := by decide +kernel
theorem dW_902 : decode code 902 = .ok (.invokestatic 120, 3) := by decide +kernel
theorem dW_905 : decode code 905 = .ok (.istore 5, 2) := by decide +kernel
theorem dW_907 : decode code 907 = .ok (.aload_n 2, 1) := by decide +kernel
theorem dW_908 : decode code 908 = .ok (.aload_n 0, 1) := by decide +kernel
theorem dW_909 : decode code 909 = .ok (.iload 4, 2) := by decide +kernel
theorem dW_911 : decode code 911 = .ok (.iconst 1, 1) := by decide +kernel
theorem dW_912 : decode code 912 = .ok (.iadd, 1) := by decide +kernel
theorem dW_913 : decode code 913 = .ok (.iaload, 1) := by decide +kernel
theorem dW_914 : decode code 914 = .ok (.aload_n 0, 1) := by decide +kernel
theorem dW_915 : decode code 915 = .ok (.iload 4, 2) := by decide +kernel
theorem dW_917 : decode code 917 = .ok (.iconst 2, 1) := by decide +kernel
theorem dW_918 : decode code 918 = .ok (.iadd, 1) := by decide +kernel
theorem dW_919 : decode code 919 = .ok (.iaload, 1) := by decide +kernel
theorem dW_920 : decode code 920 = .ok (.aload_n 0, 1) := by decide +kernel
theorem dW_921 : decode code 921 = .ok (.iload 4, 2) := by decide +kernel
theorem dW_923 : decode code 923 = .ok (.iconst 3, 1) := by decide +kernel
theorem dW_924 : decode code 924 = .ok (.iadd, 1) := by decide +kernel
theorem dW_925 : decode code 925 = .ok (.iaload, 1) := by decide +kernel
theorem dW_926 : decode code 926 = .ok (.invokevirtual 122, 3) := by decide +kernel
theorem dW_929 : decode code 929 = .ok (.istore 6, 2) := by decide +kernel
theorem dW_931 : decode code 931 = .ok (.aload_n 2, 1) := by decide +kernel
theorem dW_932 : decode code 932 = .ok (.invokevirtual 71, 3) := by decide +kernel
theorem dW_935 : decode code 935 = .ok (.iload 5, 2) := by decide +kernel
theorem dW_937 : decode code 937 = .ok (.if_icmp .eq (5), 3) := by decide +kernel
theorem dW_940 : decode code 940 = .ok (.iconst 0, 1) := by decide +kernel
theorem dW_941 : decode code 941 = .ok (.ireturn, 1) := by decide +kernel
theorem dW_942 : decode code 942 = .ok (.iload 5, 2) := by decide +kernel
theorem dW_944 : decode code 944 = .ok (.ifCond .ne (15), 3) := by decide +kernel
theorem dW_947 : decode code 947 = .ok (.aload_n 3, 1) := by decide +kernel
theorem dW_948 : decode code 948 = .ok (.iconst 0, 1) := by decide +kernel
theorem dW_949 : decode code 949 = .ok (.laload, 1) := by decide +kernel
theorem dW_950 : decode code 950 = .ok (.iload 6, 2) := by decide +kernel
theorem dW_952 : decode code 952 = .ok (.i2l, 1) := by decide +kernel
theorem dW_953 : decode code 953 = .ok (.lcmp, 1) := by decide +kernel
theorem dW_954 : decode code 954 = .ok (.ifCond .eq (5), 3) := by decide +kernel
theorem dW_957 : decode code 957 = .ok (.iconst 0, 1) := by decide +kernel
theorem dW_958 : decode code 958 = .ok (.ireturn, 1) := by decide +kernel
theorem dW_959 : decode code 959 = .ok (.goto (14), 3) := by decide +kernel
theorem dW_962 : decode code 962 = .ok (.aload_n 1, 1) := by decide +kernel
theorem dW_963 : decode code 963 = .ok (.invokevirtual 123, 3) := by decide +kernel
theorem dW_966 : decode code 966 = .ok (.aload_n 2, 1) := by decide +kernel
theorem dW_967 : decode code 967 = .ok (.invokevirtual 126, 3) := by decide +kernel
theorem dW_970 : decode code 970 = .ok (.goto (3), 3) := by decide +kernel
theorem dW_973 : decode code 973 = .ok (.iinc 4 (5), 3) := by decide +kernel
theorem dW_976 : decode code 976 = .ok (.goto (-953), 3) := by decide +kernel
theorem dW_979 : decode code 979 = .ok (.iconst 1, 1) := by decide +kernel
theorem dW_980 : decode code 980 = .ok (.ireturn, 1) := by decide +kernel
