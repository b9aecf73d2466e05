/-! Names, laid by program (wip/tools/names.py): words, fields, methods, links. Classes: A MovedRegisters, P Plan, B Bank, O Order, H Paths, L Limits, V Mover, C Clock, G Logic, M the reference. -/
def mT : List Cond := lw_tbl.filter mx_gw
theorem mT_G : mx_G mT := fun w h => (List.mem_filter.mp h).2
theorem mT_of {w : Cond} (h : w ∈ lw_tbl) (hg : mx_gw w = true) : w ∈ mT := List.mem_filter.mpr ⟨h, hg⟩
theorem mT_1 {i : Nat} {w : Cond} (h : tables_1_1[i]? = some w) (hg : mx_gw w = true) : w ∈ mT := mT_of (List.mem_append_right _ (List.mem_append_left _ (List.mem_of_getElem? h))) hg
theorem mT_2 {i : Nat} {w : Cond} (h : tables_1_2[i]? = some w) (hg : mx_gw w = true) : w ∈ mT := mT_of (List.mem_append_right _ (List.mem_append_right _ (List.mem_append_left _ (List.mem_of_getElem? h)))) hg
theorem mT_3 {i : Nat} {w : Cond} (h : tables_1_3[i]? = some w) (hg : mx_gw w = true) : w ∈ mT := mT_of (List.mem_append_right _ (List.mem_append_right _ (List.mem_append_right _ (List.mem_append_left _ (List.mem_of_getElem? h))))) hg
theorem mT_4 {i : Nat} {w : Cond} (h : tables_1_4[i]? = some w) (hg : mx_gw w = true) : w ∈ mT := mT_of (List.mem_append_right _ (List.mem_append_right _ (List.mem_append_right _ (List.mem_append_right _ (List.mem_of_getElem? h))))) hg
theorem mT_s {i n : Nat} {y : MethodName} (h : lw_privs[i]? = some (y, n)) : Cond.selects y.cls y y ∈ mT := mT_of (List.mem_append_left _ (List.mem_map.mpr ⟨(y, n), List.mem_of_getElem? h, rfl⟩)) rfl

def F_A : u_T := fun k => match k with
  | 0 => ("MovedRegisters", "plan", "LMovedRegisters$Plan;", true)
  | 1 => ("MovedRegisters", "bank", "LMovedRegisters$Bank;", true)
  | 2 => ("MovedRegisters", "trial", "LMovedRegisters$Bank;", true)
  | 3 => ("MovedRegisters", "order", "LMovedRegisters$Order;", true)
  | 4 => ("MovedRegisters", "paths", "LMovedRegisters$Paths;", true)
  | 5 => ("MovedRegisters", "limits", "LMovedRegisters$Limits;", true)
  | 6 => ("MovedRegisters", "mover", "LMovedRegisters$Mover;", true)
  | 7 => ("MovedRegisters", "clock", "LMovedRegisters$Clock;", true)
  | _ => ("MovedRegisters", "latest", "[I", true)
def t_A : Nat → FieldType := fun k => match k with
  | 0 => .object "MovedRegisters$Plan"
  | 1 => .object "MovedRegisters$Bank"
  | 2 => .object "MovedRegisters$Bank"
  | 3 => .object "MovedRegisters$Order"
  | 4 => .object "MovedRegisters$Paths"
  | 5 => .object "MovedRegisters$Limits"
  | 6 => .object "MovedRegisters$Mover"
  | 7 => .object "MovedRegisters$Clock"
  | _ => .array .int
theorem n_A : ∀ a, a < 9 → ∀ b, b < 9 → a ≠ b → (F_A a).2.1 ≠ (F_A b).2.1 := by decide +kernel
theorem t_A_ok : ∀ k, k < 9 → parseFieldDescriptor (F_A k).2.2.1 = some (t_A k) := by decide +kernel
theorem fw_A : ∀ w ∈ u_ws "MovedRegisters" F_A 9, w ∈ mT := by
  intro w hw
  obtain ⟨k, hk, rfl⟩ := List.mem_map.mp hw
  have hk := List.mem_range.mp hk
  match k, hk with
  | 0, _ => exact (mT_1 (i := 161) rfl rfl)
  | 1, _ => exact (mT_1 (i := 163) rfl rfl)
  | 2, _ => exact (mT_1 (i := 165) rfl rfl)
  | 3, _ => exact (mT_1 (i := 167) rfl rfl)
  | 4, _ => exact (mT_1 (i := 169) rfl rfl)
  | 5, _ => exact (mT_1 (i := 171) rfl rfl)
  | 6, _ => exact (mT_1 (i := 173) rfl rfl)
  | 7, _ => exact (mT_1 (i := 175) rfl rfl)
  | 8, _ => exact (mT_1 (i := 177) rfl rfl)
  | j + 9, h => exact absurd h (by omega)
def F_P : u_T := fun k => match k with
  | 0 => ("MovedRegisters$Plan", "count", "I", false)
  | 1 => ("MovedRegisters$Plan", "kind", "[I", true)
  | 2 => ("MovedRegisters$Plan", "cost", "[I", true)
  | _ => ("MovedRegisters$Plan", "source", "[I", true)
def t_P : Nat → FieldType := fun k => match k with
  | 0 => .int
  | 1 => .array .int
  | 2 => .array .int
  | _ => .array .int
theorem n_P : ∀ a, a < 4 → ∀ b, b < 4 → a ≠ b → (F_P a).2.1 ≠ (F_P b).2.1 := by decide +kernel
theorem t_P_ok : ∀ k, k < 4 → parseFieldDescriptor (F_P k).2.2.1 = some (t_P k) := by decide +kernel
theorem fw_P : ∀ w ∈ u_ws "MovedRegisters$Plan" F_P 4, w ∈ mT := by
  intro w hw
  obtain ⟨k, hk, rfl⟩ := List.mem_map.mp hw
  have hk := List.mem_range.mp hk
  match k, hk with
  | 0, _ => exact (mT_1 (i := 51) rfl rfl)
  | 1, _ => exact (mT_1 (i := 53) rfl rfl)
  | 2, _ => exact (mT_1 (i := 55) rfl rfl)
  | 3, _ => exact (mT_1 (i := 57) rfl rfl)
  | j + 4, h => exact absurd h (by omega)
def F_B : u_T := fun k => match k with
  | 0 => ("MovedRegisters$Bank", "lengths", "[I", true)
  | _ => ("MovedRegisters$Bank", "values", "[J", true)
def t_B : Nat → FieldType := fun k => match k with
  | 0 => .array .int
  | _ => .array .long
theorem n_B : ∀ a, a < 2 → ∀ b, b < 2 → a ≠ b → (F_B a).2.1 ≠ (F_B b).2.1 := by decide +kernel
theorem t_B_ok : ∀ k, k < 2 → parseFieldDescriptor (F_B k).2.2.1 = some (t_B k) := by decide +kernel
theorem fw_B : ∀ w ∈ u_ws "MovedRegisters$Bank" F_B 2, w ∈ mT := by
  intro w hw
  obtain ⟨k, hk, rfl⟩ := List.mem_map.mp hw
  have hk := List.mem_range.mp hk
  match k, hk with
  | 0, _ => exact (mT_1 (i := 69) rfl rfl)
  | 1, _ => exact (mT_1 (i := 71) rfl rfl)
  | j + 2, h => exact absurd h (by omega)
def F_O : u_T := fun k => match k with
  | 0 => ("MovedRegisters$Order", "place", "[I", true)
  | 1 => ("MovedRegisters$Order", "placed", "[Z", true)
  | _ => ("MovedRegisters$Order", "filled", "I", false)
def t_O : Nat → FieldType := fun k => match k with
  | 0 => .array .int
  | 1 => .array .boolean
  | _ => .int
theorem n_O : ∀ a, a < 3 → ∀ b, b < 3 → a ≠ b → (F_O a).2.1 ≠ (F_O b).2.1 := by decide +kernel
theorem t_O_ok : ∀ k, k < 3 → parseFieldDescriptor (F_O k).2.2.1 = some (t_O k) := by decide +kernel
theorem fw_O : ∀ w ∈ u_ws "MovedRegisters$Order" F_O 3, w ∈ mT := by
  intro w hw
  obtain ⟨k, hk, rfl⟩ := List.mem_map.mp hw
  have hk := List.mem_range.mp hk
  match k, hk with
  | 0, _ => exact (mT_1 (i := 85) rfl rfl)
  | 1, _ => exact (mT_1 (i := 87) rfl rfl)
  | 2, _ => exact (mT_1 (i := 89) rfl rfl)
  | j + 3, h => exact absurd h (by omega)
def F_H : u_T := fun k => match k with
  | 0 => ("MovedRegisters$Paths", "least", "[[I", true)
  | _ => ("MovedRegisters$Paths", "longest", "[[I", true)
def t_H : Nat → FieldType := fun k => match k with
  | 0 => .array (.array .int)
  | _ => .array (.array .int)
theorem n_H : ∀ a, a < 2 → ∀ b, b < 2 → a ≠ b → (F_H a).2.1 ≠ (F_H b).2.1 := by decide +kernel
theorem t_H_ok : ∀ k, k < 2 → parseFieldDescriptor (F_H k).2.2.1 = some (t_H k) := by decide +kernel
theorem fw_H : ∀ w ∈ u_ws "MovedRegisters$Paths" F_H 2, w ∈ mT := by
  intro w hw
  obtain ⟨k, hk, rfl⟩ := List.mem_map.mp hw
  have hk := List.mem_range.mp hk
  match k, hk with
  | 0, _ => exact (mT_1 (i := 107) rfl rfl)
  | 1, _ => exact (mT_1 (i := 109) rfl rfl)
  | j + 2, h => exact absurd h (by omega)
def F_L : u_T := fun k => match k with
  | 0 => ("MovedRegisters$Limits", "labels", "[I", true)
  | _ => ("MovedRegisters$Limits", "most", "[[I", true)
def t_L : Nat → FieldType := fun k => match k with
  | 0 => .array .int
  | _ => .array (.array .int)
theorem n_L : ∀ a, a < 2 → ∀ b, b < 2 → a ≠ b → (F_L a).2.1 ≠ (F_L b).2.1 := by decide +kernel
theorem t_L_ok : ∀ k, k < 2 → parseFieldDescriptor (F_L k).2.2.1 = some (t_L k) := by decide +kernel
theorem fw_L : ∀ w ∈ u_ws "MovedRegisters$Limits" F_L 2, w ∈ mT := by
  intro w hw
  obtain ⟨k, hk, rfl⟩ := List.mem_map.mp hw
  have hk := List.mem_range.mp hk
  match k, hk with
  | 0, _ => exact (mT_1 (i := 122) rfl rfl)
  | 1, _ => exact (mT_1 (i := 124) rfl rfl)
  | j + 2, h => exact absurd h (by omega)
def F_V : u_T := fun k => match k with
  | _ => ("MovedRegisters$Mover", "left", "[I", true)
def t_V : Nat → FieldType := fun k => match k with
  | _ => .array .int
theorem n_V : ∀ a, a < 1 → ∀ b, b < 1 → a ≠ b → (F_V a).2.1 ≠ (F_V b).2.1 := by decide +kernel
theorem t_V_ok : ∀ k, k < 1 → parseFieldDescriptor (F_V k).2.2.1 = some (t_V k) := by decide +kernel
theorem fw_V : ∀ w ∈ u_ws "MovedRegisters$Mover" F_V 1, w ∈ mT := by
  intro w hw
  obtain ⟨k, hk, rfl⟩ := List.mem_map.mp hw
  have hk := List.mem_range.mp hk
  match k, hk with
  | 0, _ => exact (mT_1 (i := 134) rfl rfl)
  | j + 1, h => exact absurd h (by omega)
def F_C : u_T := fun k => match k with
  | 0 => ("MovedRegisters$Clock", "state", "LMovedRegisters$Bank;", true)
  | _ => ("MovedRegisters$Clock", "value", "[I", true)
def t_C : Nat → FieldType := fun k => match k with
  | 0 => .object "MovedRegisters$Bank"
  | _ => .array .int
theorem n_C : ∀ a, a < 2 → ∀ b, b < 2 → a ≠ b → (F_C a).2.1 ≠ (F_C b).2.1 := by decide +kernel
theorem t_C_ok : ∀ k, k < 2 → parseFieldDescriptor (F_C k).2.2.1 = some (t_C k) := by decide +kernel
theorem fw_C : ∀ w ∈ u_ws "MovedRegisters$Clock" F_C 2, w ∈ mT := by
  intro w hw
  obtain ⟨k, hk, rfl⟩ := List.mem_map.mp hw
  have hk := List.mem_range.mp hk
  match k, hk with
  | 0, _ => exact (mT_1 (i := 147) rfl rfl)
  | 1, _ => exact (mT_1 (i := 149) rfl rfl)
  | j + 2, h => exact absurd h (by omega)
def F_M : u_T := fun k => match k with
  | 0 => ("MovedRegistersModel", "thrown", "I", false)
  | 1 => ("MovedRegistersModel", "count", "I", false)
  | 2 => ("MovedRegistersModel", "kinds", "[I", true)
  | 3 => ("MovedRegistersModel", "delays", "[I", true)
  | 4 => ("MovedRegistersModel", "from", "[I", true)
  | 5 => ("MovedRegistersModel", "many", "[I", true)
  | 6 => ("MovedRegistersModel", "values", "[I", true)
  | 7 => ("MovedRegistersModel", "running", "[I", true)
  | 8 => ("MovedRegistersModel", "tried", "[I", true)
  | 9 => ("MovedRegistersModel", "triedMany", "[I", true)
  | 10 => ("MovedRegistersModel", "told", "[I", true)
  | 11 => ("MovedRegistersModel", "labels", "[I", true)
  | 12 => ("MovedRegistersModel", "left", "[I", true)
  | 13 => ("MovedRegistersModel", "costs", "[I", true)
  | _ => ("MovedRegistersModel", "out", "[I", true)
def t_M : Nat → FieldType := fun k => match k with
  | 0 => .int
  | 1 => .int
  | 2 => .array .int
  | 3 => .array .int
  | 4 => .array .int
  | 5 => .array .int
  | 6 => .array .int
  | 7 => .array .int
  | 8 => .array .int
  | 9 => .array .int
  | 10 => .array .int
  | 11 => .array .int
  | 12 => .array .int
  | 13 => .array .int
  | _ => .array .int
theorem n_M : ∀ a, a < 15 → ∀ b, b < 15 → a ≠ b → (F_M a).2.1 ≠ (F_M b).2.1 := by decide +kernel
theorem t_M_ok : ∀ k, k < 15 → parseFieldDescriptor (F_M k).2.2.1 = some (t_M k) := by decide +kernel
theorem fw_M : ∀ w ∈ u_ws "MovedRegistersModel" F_M 15, w ∈ mT := by
  intro w hw
  obtain ⟨k, hk, rfl⟩ := List.mem_map.mp hw
  have hk := List.mem_range.mp hk
  match k, hk with
  | 0, _ => exact (mT_3 (i := 221) rfl rfl)
  | 1, _ => exact (mT_3 (i := 223) rfl rfl)
  | 2, _ => exact (mT_3 (i := 225) rfl rfl)
  | 3, _ => exact (mT_3 (i := 227) rfl rfl)
  | 4, _ => exact (mT_3 (i := 229) rfl rfl)
  | 5, _ => exact (mT_3 (i := 231) rfl rfl)
  | 6, _ => exact (mT_3 (i := 233) rfl rfl)
  | 7, _ => exact (mT_3 (i := 235) rfl rfl)
  | 8, _ => exact (mT_3 (i := 237) rfl rfl)
  | 9, _ => exact (mT_3 (i := 239) rfl rfl)
  | 10, _ => exact (mT_4 (i := 1) rfl rfl)
  | 11, _ => exact (mT_4 (i := 3) rfl rfl)
  | 12, _ => exact (mT_4 (i := 5) rfl rfl)
  | 13, _ => exact (mT_4 (i := 7) rfl rfl)
  | 14, _ => exact (mT_4 (i := 9) rfl rfl)
  | j + 15, h => exact absurd h (by omega)
abbrev mCl : List vw_C := [("MovedRegisters", F_A, 9), ("MovedRegisters$Plan", F_P, 4), ("MovedRegisters$Bank", F_B, 2), ("MovedRegisters$Order", F_O, 3), ("MovedRegisters$Paths", F_H, 2), ("MovedRegisters$Limits", F_L, 2), ("MovedRegisters$Mover", F_V, 1), ("MovedRegisters$Clock", F_C, 2), ("MovedRegistersModel", F_M, 15)]
abbrev jA_init : mx_J := (⟨"MovedRegisters", "<init>", "()V"⟩, prog_1_method_1_code, 1, none)
theorem jA_init_ok : mx_ok mT jA_init 0 := ⟨(mT_1 (i := 24) rfl rfl), (mT_1 (i := 1) rfl rfl), by decide +kernel, by decide +kernel, by decide +kernel, by decide +kernel⟩
abbrev jA_gate : mx_J := (⟨"MovedRegisters", "gate", "(II)I"⟩, prog_1_method_2_code, 3, (some .int))
theorem jA_gate_ok : mx_ok mT jA_gate 2 := ⟨(mT_2 (i := 24) rfl rfl), (mT_1 (i := 1) rfl rfl), by decide +kernel, by decide +kernel, by decide +kernel, by decide +kernel⟩
theorem jA_gate_v : Cond.instanceMethod jA_gate.1 ∈ mT ∧ Cond.selects jA_gate.1.cls jA_gate.1 jA_gate.1 ∈ mT := ⟨(mT_2 (i := 22) rfl rfl), (mT_2 (i := 23) rfl rfl)⟩
abbrev jA_wire : mx_J := (⟨"MovedRegisters", "wire", "(IIII)V"⟩, prog_1_method_3_code, 6, none)
theorem jA_wire_ok : mx_ok mT jA_wire 4 := ⟨(mT_2 (i := 115) rfl rfl), (mT_1 (i := 1) rfl rfl), by decide +kernel, by decide +kernel, by decide +kernel, by decide +kernel⟩
theorem jA_wire_v : Cond.instanceMethod jA_wire.1 ∈ mT ∧ Cond.selects jA_wire.1.cls jA_wire.1 jA_wire.1 ∈ mT := ⟨(mT_2 (i := 113) rfl rfl), (mT_2 (i := 114) rfl rfl)⟩
abbrev jA_hold : mx_J := (⟨"MovedRegisters", "hold", "(IIII)V"⟩, prog_1_method_4_code, 6, none)
theorem jA_hold_ok : mx_ok mT jA_hold 4 := ⟨(mT_2 (i := 166) rfl rfl), (mT_1 (i := 1) rfl rfl), by decide +kernel, by decide +kernel, by decide +kernel, by decide +kernel⟩
theorem jA_hold_v : Cond.instanceMethod jA_hold.1 ∈ mT ∧ Cond.selects jA_hold.1.cls jA_hold.1 jA_hold.1 ∈ mT := ⟨(mT_2 (i := 164) rfl rfl), (mT_2 (i := 165) rfl rfl)⟩
abbrev jA_held : mx_J := (⟨"MovedRegisters", "held", "(III)I"⟩, prog_1_method_5_code, 4, (some .int))
theorem jA_held_ok : mx_ok mT jA_held 3 := ⟨(mT_2 (i := 186) rfl rfl), (mT_1 (i := 1) rfl rfl), by decide +kernel, by decide +kernel, by decide +kernel, by decide +kernel⟩
theorem jA_held_v : Cond.instanceMethod jA_held.1 ∈ mT ∧ Cond.selects jA_held.1.cls jA_held.1 jA_held.1 ∈ mT := ⟨(mT_2 (i := 184) rfl rfl), (mT_2 (i := 185) rfl rfl)⟩
abbrev jA_registers : mx_J := (⟨"MovedRegisters", "registers", "(II)I"⟩, prog_1_method_6_code, 3, (some .int))
theorem jA_registers_ok : mx_ok mT jA_registers 2 := ⟨(mT_2 (i := 197) rfl rfl), (mT_1 (i := 1) rfl rfl), by decide +kernel, by decide +kernel, by decide +kernel, by decide +kernel⟩
theorem jA_registers_v : Cond.instanceMethod jA_registers.1 ∈ mT ∧ Cond.selects jA_registers.1.cls jA_registers.1 jA_registers.1 ∈ mT := ⟨(mT_2 (i := 195) rfl rfl), (mT_2 (i := 196) rfl rfl)⟩
abbrev jA_gates : mx_J := (⟨"MovedRegisters", "gates", "()I"⟩, prog_1_method_7_code, 1, (some .int))
theorem jA_gates_ok : mx_ok mT jA_gates 0 := ⟨(mT_1 (i := 183) rfl rfl), (mT_1 (i := 1) rfl rfl), by decide +kernel, by decide +kernel, by decide +kernel, by decide +kernel⟩
theorem jA_gates_v : Cond.instanceMethod jA_gates.1 ∈ mT ∧ Cond.selects jA_gates.1.cls jA_gates.1 jA_gates.1 ∈ mT := ⟨(mT_1 (i := 181) rfl rfl), (mT_1 (i := 182) rfl rfl)⟩
abbrev jA_sound : mx_J := (⟨"MovedRegisters", "sound", "()Z"⟩, prog_1_method_8_code, 1, (some .boolean))
theorem jA_sound_ok : mx_ok mT jA_sound 0 := ⟨(mT_1 (i := 187) rfl rfl), (mT_1 (i := 1) rfl rfl), by decide +kernel, by decide +kernel, by decide +kernel, by decide +kernel⟩
theorem jA_sound_v : Cond.instanceMethod jA_sound.1 ∈ mT ∧ Cond.selects jA_sound.1.cls jA_sound.1 jA_sound.1 ∈ mT := ⟨(mT_1 (i := 185) rfl rfl), (mT_1 (i := 186) rfl rfl)⟩
abbrev jA_period : mx_J := (⟨"MovedRegisters", "period", "()I"⟩, prog_1_method_9_code, 1, (some .int))
theorem jA_period_ok : mx_ok mT jA_period 0 := ⟨(mT_2 (i := 205) rfl rfl), (mT_1 (i := 1) rfl rfl), by decide +kernel, by decide +kernel, by decide +kernel, by decide +kernel⟩
theorem jA_period_v : Cond.instanceMethod jA_period.1 ∈ mT ∧ Cond.selects jA_period.1.cls jA_period.1 jA_period.1 ∈ mT := ⟨(mT_2 (i := 203) rfl rfl), (mT_2 (i := 204) rfl rfl)⟩
abbrev jA_weight : mx_J := (⟨"MovedRegisters", "weight", "(II)I"⟩, prog_1_method_10_code, 3, (some .int))
theorem jA_weight_ok : mx_ok mT jA_weight 2 := ⟨(mT_3 (i := 18) rfl rfl), (mT_1 (i := 1) rfl rfl), by decide +kernel, by decide +kernel, by decide +kernel, by decide +kernel⟩
theorem jA_weight_v : Cond.instanceMethod jA_weight.1 ∈ mT ∧ Cond.selects jA_weight.1.cls jA_weight.1 jA_weight.1 ∈ mT := ⟨(mT_3 (i := 16) rfl rfl), (mT_3 (i := 17) rfl rfl)⟩
abbrev jA_delay : mx_J := (⟨"MovedRegisters", "delay", "(II)I"⟩, prog_1_method_11_code, 3, (some .int))
theorem jA_delay_ok : mx_ok mT jA_delay 2 := ⟨(mT_3 (i := 30) rfl rfl), (mT_1 (i := 1) rfl rfl), by decide +kernel, by decide +kernel, by decide +kernel, by decide +kernel⟩
theorem jA_delay_v : Cond.instanceMethod jA_delay.1 ∈ mT ∧ Cond.selects jA_delay.1.cls jA_delay.1 jA_delay.1 ∈ mT := ⟨(mT_3 (i := 28) rfl rfl), (mT_3 (i := 29) rfl rfl)⟩
abbrev jA_least : mx_J := (⟨"MovedRegisters", "least", "()I"⟩, prog_1_method_12_code, 5, (some .int))
theorem jA_least_ok : mx_ok mT jA_least 0 := ⟨(mT_3 (i := 37) rfl rfl), (mT_1 (i := 1) rfl rfl), by decide +kernel, by decide +kernel, by decide +kernel, by decide +kernel⟩
theorem jA_least_v : Cond.instanceMethod jA_least.1 ∈ mT ∧ Cond.selects jA_least.1.cls jA_least.1 jA_least.1 ∈ mT := ⟨(mT_3 (i := 35) rfl rfl), (mT_3 (i := 36) rfl rfl)⟩
abbrev jA_shared : mx_J := (⟨"MovedRegisters", "shared", "()I"⟩, prog_1_method_13_code, 3, (some .int))
theorem jA_shared_ok : mx_ok mT jA_shared 0 := ⟨(mT_3 (i := 78) rfl rfl), (mT_1 (i := 1) rfl rfl), by decide +kernel, by decide +kernel, by decide +kernel, by decide +kernel⟩
theorem jA_shared_v : Cond.instanceMethod jA_shared.1 ∈ mT ∧ Cond.selects jA_shared.1.cls jA_shared.1 jA_shared.1 ∈ mT := ⟨(mT_3 (i := 76) rfl rfl), (mT_3 (i := 77) rfl rfl)⟩
abbrev jA_retime : mx_J := (⟨"MovedRegisters", "retime", "(I)I"⟩, prog_1_method_14_code, 2, (some .int))
theorem jA_retime_ok : mx_ok mT jA_retime 1 := ⟨(mT_3 (i := 90) rfl rfl), (mT_1 (i := 1) rfl rfl), by decide +kernel, by decide +kernel, by decide +kernel, by decide +kernel⟩
theorem jA_retime_v : Cond.instanceMethod jA_retime.1 ∈ mT ∧ Cond.selects jA_retime.1.cls jA_retime.1 jA_retime.1 ∈ mT := ⟨(mT_3 (i := 88) rfl rfl), (mT_3 (i := 89) rfl rfl)⟩
abbrev jA_label : mx_J := (⟨"MovedRegisters", "label", "(I)I"⟩, prog_1_method_15_code, 2, (some .int))
theorem jA_label_ok : mx_ok mT jA_label 1 := ⟨(mT_3 (i := 165) rfl rfl), (mT_1 (i := 1) rfl rfl), by decide +kernel, by decide +kernel, by decide +kernel, by decide +kernel⟩
theorem jA_label_v : Cond.instanceMethod jA_label.1 ∈ mT ∧ Cond.selects jA_label.1.cls jA_label.1 jA_label.1 ∈ mT := ⟨(mT_3 (i := 163) rfl rfl), (mT_3 (i := 164) rfl rfl)⟩
abbrev jA_tick : mx_J := (⟨"MovedRegisters", "tick", "(III)I"⟩, prog_1_method_16_code, 5, (some .int))
theorem jA_tick_ok : mx_ok mT jA_tick 3 := ⟨(mT_3 (i := 172) rfl rfl), (mT_1 (i := 1) rfl rfl), by decide +kernel, by decide +kernel, by decide +kernel, by decide +kernel⟩
theorem jA_tick_v : Cond.instanceMethod jA_tick.1 ∈ mT ∧ Cond.selects jA_tick.1.cls jA_tick.1 jA_tick.1 ∈ mT := ⟨(mT_3 (i := 170) rfl rfl), (mT_3 (i := 171) rfl rfl)⟩
abbrev jA_restart : mx_J := (⟨"MovedRegisters", "restart", "()V"⟩, prog_1_method_17_code, 1, none)
theorem jA_restart_ok : mx_ok mT jA_restart 0 := ⟨(mT_2 (i := 4) rfl rfl), (mT_1 (i := 1) rfl rfl), by decide +kernel, by decide +kernel, by decide +kernel, by decide +kernel⟩
theorem jA_restart_v : Cond.instanceMethod jA_restart.1 ∈ mT ∧ Cond.selects jA_restart.1.cls jA_restart.1 jA_restart.1 ∈ mT := ⟨(mT_2 (i := 2) rfl rfl), (mT_2 (i := 3) rfl rfl)⟩
abbrev jA_isValue : mx_J := (⟨"MovedRegisters", "isValue", "(I)Z"⟩, prog_1_method_18_code, 1, (some .boolean))
theorem jA_isValue_ok : mx_ok mT jA_isValue 1 := ⟨(mT_2 (i := 178) rfl rfl), (mT_1 (i := 1) rfl rfl), by decide +kernel, by decide +kernel, by decide +kernel, by decide +kernel⟩
theorem jA_isValue_v : Cond.static jA_isValue.1 ∈ mT := (mT_2 (i := 177) rfl rfl)
abbrev jA_needGate : mx_J := (⟨"MovedRegisters", "needGate", "(I)V"⟩, prog_1_method_19_code, 2, none)
theorem jA_needGate_ok : mx_ok mT jA_needGate 1 := ⟨(mT_3 (i := 22) rfl rfl), (mT_1 (i := 1) rfl rfl), by decide +kernel, by decide +kernel, by decide +kernel, by decide +kernel⟩
theorem jA_needGate_v : Cond.instanceMethod jA_needGate.1 ∈ mT ∧ Cond.selects jA_needGate.1.cls jA_needGate.1 jA_needGate.1 ∈ mT := ⟨(mT_3 (i := 21) rfl rfl), (mT_s (i := 12) (n := 9) rfl)⟩
abbrev jA_needSound : mx_J := (⟨"MovedRegisters", "needSound", "()V"⟩, prog_1_method_20_code, 1, none)
theorem jA_needSound_ok : mx_ok mT jA_needSound 0 := ⟨(mT_2 (i := 209) rfl rfl), (mT_1 (i := 1) rfl rfl), by decide +kernel, by decide +kernel, by decide +kernel, by decide +kernel⟩
theorem jA_needSound_v : Cond.instanceMethod jA_needSound.1 ∈ mT ∧ Cond.selects jA_needSound.1.cls jA_needSound.1 jA_needSound.1 ∈ mT := ⟨(mT_2 (i := 208) rfl rfl), (mT_s (i := 8) (n := 9) rfl)⟩
abbrev jA_isSound : mx_J := (⟨"MovedRegisters", "isSound", "()Z"⟩, prog_1_method_21_code, 1, (some .boolean))
theorem jA_isSound_ok : mx_ok mT jA_isSound 0 := ⟨(mT_1 (i := 191) rfl rfl), (mT_1 (i := 1) rfl rfl), by decide +kernel, by decide +kernel, by decide +kernel, by decide +kernel⟩
theorem jA_isSound_v : Cond.instanceMethod jA_isSound.1 ∈ mT ∧ Cond.selects jA_isSound.1.cls jA_isSound.1 jA_isSound.1 ∈ mT := ⟨(mT_1 (i := 190) rfl rfl), (mT_s (i := 0) (n := 9) rfl)⟩
abbrev jA_wireTo : mx_J := (⟨"MovedRegisters", "wireTo", "(II)I"⟩, prog_1_method_22_code, 4, (some .int))
theorem jA_wireTo_ok : mx_ok mT jA_wireTo 2 := ⟨(mT_2 (i := 174) rfl rfl), (mT_1 (i := 1) rfl rfl), by decide +kernel, by decide +kernel, by decide +kernel, by decide +kernel⟩
theorem jA_wireTo_v : Cond.instanceMethod jA_wireTo.1 ∈ mT ∧ Cond.selects jA_wireTo.1.cls jA_wireTo.1 jA_wireTo.1 ∈ mT := ⟨(mT_2 (i := 173) rfl rfl), (mT_s (i := 7) (n := 9) rfl)⟩
abbrev jA_registerWire : mx_J := (⟨"MovedRegisters", "registerWire", "(III)I"⟩, prog_1_method_23_code, 5, (some .int))
theorem jA_registerWire_ok : mx_ok mT jA_registerWire 3 := ⟨(mT_2 (i := 170) rfl rfl), (mT_1 (i := 1) rfl rfl), by decide +kernel, by decide +kernel, by decide +kernel, by decide +kernel⟩
theorem jA_registerWire_v : Cond.instanceMethod jA_registerWire.1 ∈ mT ∧ Cond.selects jA_registerWire.1.cls jA_registerWire.1 jA_registerWire.1 ∈ mT := ⟨(mT_2 (i := 169) rfl rfl), (mT_s (i := 6) (n := 9) rfl)⟩
abbrev jA_mostFrom : mx_J := (⟨"MovedRegisters", "mostFrom", "(I)I"⟩, prog_1_method_24_code, 4, (some .int))
theorem jA_mostFrom_ok : mx_ok mT jA_mostFrom 1 := ⟨(mT_3 (i := 82) rfl rfl), (mT_1 (i := 1) rfl rfl), by decide +kernel, by decide +kernel, by decide +kernel, by decide +kernel⟩
theorem jA_mostFrom_v : Cond.instanceMethod jA_mostFrom.1 ∈ mT ∧ Cond.selects jA_mostFrom.1.cls jA_mostFrom.1 jA_mostFrom.1 ∈ mT := ⟨(mT_3 (i := 81) rfl rfl), (mT_s (i := 18) (n := 9) rfl)⟩
abbrev jA_moveUpTo : mx_J := (⟨"MovedRegisters", "moveUpTo", "(I)Z"⟩, prog_1_method_25_code, 2, (some .boolean))
theorem jA_moveUpTo_ok : mx_ok mT jA_moveUpTo 1 := ⟨(mT_3 (i := 94) rfl rfl), (mT_1 (i := 1) rfl rfl), by decide +kernel, by decide +kernel, by decide +kernel, by decide +kernel⟩
theorem jA_moveUpTo_v : Cond.instanceMethod jA_moveUpTo.1 ∈ mT ∧ Cond.selects jA_moveUpTo.1.cls jA_moveUpTo.1 jA_moveUpTo.1 ∈ mT := ⟨(mT_3 (i := 93) rfl rfl), (mT_s (i := 19) (n := 9) rfl)⟩
abbrev jM_init : mx_J := (⟨"MovedRegistersModel", "<init>", "()V"⟩, prog_11_method_1_code, 1, none)
theorem jM_init_ok : mx_ok mT jM_init 0 := ⟨(mT_3 (i := 204) rfl rfl), (mT_1 (i := 9) rfl rfl), by decide +kernel, by decide +kernel, by decide +kernel, by decide +kernel⟩
abbrev jM_thrown : mx_J := (⟨"MovedRegistersModel", "thrown", "()I"⟩, prog_11_method_2_code, 1, (some .int))
theorem jM_thrown_ok : mx_ok mT jM_thrown 0 := ⟨(mT_4 (i := 15) rfl rfl), (mT_1 (i := 9) rfl rfl), by decide +kernel, by decide +kernel, by decide +kernel, by decide +kernel⟩
theorem jM_thrown_v : Cond.instanceMethod jM_thrown.1 ∈ mT ∧ Cond.selects jM_thrown.1.cls jM_thrown.1 jM_thrown.1 ∈ mT := ⟨(mT_4 (i := 13) rfl rfl), (mT_4 (i := 14) rfl rfl)⟩
abbrev jM_isGate : mx_J := (⟨"MovedRegistersModel", "isGate", "(I)Z"⟩, prog_11_method_3_code, 2, (some .boolean))
theorem jM_isGate_ok : mx_ok mT jM_isGate 1 := ⟨(mT_4 (i := 31) rfl rfl), (mT_1 (i := 9) rfl rfl), by decide +kernel, by decide +kernel, by decide +kernel, by decide +kernel⟩
theorem jM_isGate_v : Cond.instanceMethod jM_isGate.1 ∈ mT ∧ Cond.selects jM_isGate.1.cls jM_isGate.1 jM_isGate.1 ∈ mT := ⟨(mT_4 (i := 30) rfl rfl), (mT_s (i := 28) (n := 15) rfl)⟩
abbrev jM_isOuter : mx_J := (⟨"MovedRegistersModel", "isOuter", "(I)Z"⟩, prog_11_method_4_code, 1, (some .boolean))
theorem jM_isOuter_ok : mx_ok mT jM_isOuter 1 := ⟨(mT_4 (i := 34) rfl rfl), (mT_1 (i := 9) rfl rfl), by decide +kernel, by decide +kernel, by decide +kernel, by decide +kernel⟩
theorem jM_isOuter_v : Cond.static jM_isOuter.1 ∈ mT := (mT_4 (i := 33) rfl rfl)
abbrev jM_pins : mx_J := (⟨"MovedRegistersModel", "pins", "(I)I"⟩, prog_11_method_5_code, 2, (some .int))
theorem jM_pins_ok : mx_ok mT jM_pins 1 := ⟨(mT_4 (i := 42) rfl rfl), (mT_1 (i := 9) rfl rfl), by decide +kernel, by decide +kernel, by decide +kernel, by decide +kernel⟩
theorem jM_pins_v : Cond.instanceMethod jM_pins.1 ∈ mT ∧ Cond.selects jM_pins.1.cls jM_pins.1 jM_pins.1 ∈ mT := ⟨(mT_4 (i := 41) rfl rfl), (mT_s (i := 30) (n := 15) rfl)⟩
abbrev jM_place : mx_J := (⟨"MovedRegistersModel", "place", "(II)I"⟩, prog_11_method_6_code, 3, (some .int))
theorem jM_place_ok : mx_ok mT jM_place 2 := ⟨(mT_4 (i := 38) rfl rfl), (mT_1 (i := 9) rfl rfl), by decide +kernel, by decide +kernel, by decide +kernel, by decide +kernel⟩
theorem jM_place_v : Cond.instanceMethod jM_place.1 ∈ mT ∧ Cond.selects jM_place.1.cls jM_place.1 jM_place.1 ∈ mT := ⟨(mT_4 (i := 37) rfl rfl), (mT_s (i := 29) (n := 15) rfl)⟩
abbrev jM_isWire : mx_J := (⟨"MovedRegistersModel", "isWire", "(I)Z"⟩, prog_11_method_7_code, 2, (some .boolean))
theorem jM_isWire_ok : mx_ok mT jM_isWire 1 := ⟨(mT_4 (i := 54) rfl rfl), (mT_1 (i := 9) rfl rfl), by decide +kernel, by decide +kernel, by decide +kernel, by decide +kernel⟩
theorem jM_isWire_v : Cond.instanceMethod jM_isWire.1 ∈ mT ∧ Cond.selects jM_isWire.1.cls jM_isWire.1 jM_isWire.1 ∈ mT := ⟨(mT_4 (i := 53) rfl rfl), (mT_s (i := 32) (n := 15) rfl)⟩
abbrev jM_sinkOf : mx_J := (⟨"MovedRegistersModel", "sinkOf", "(I)I"⟩, prog_11_method_8_code, 1, (some .int))
theorem jM_sinkOf_ok : mx_ok mT jM_sinkOf 1 := ⟨(mT_4 (i := 90) rfl rfl), (mT_1 (i := 9) rfl rfl), by decide +kernel, by decide +kernel, by decide +kernel, by decide +kernel⟩
theorem jM_sinkOf_v : Cond.static jM_sinkOf.1 ∈ mT := (mT_4 (i := 89) rfl rfl)
abbrev jM_begin : mx_J := (⟨"MovedRegistersModel", "begin", "()V"⟩, prog_11_method_9_code, 2, none)
theorem jM_begin_ok : mx_ok mT jM_begin 0 := ⟨(mT_4 (i := 23) rfl rfl), (mT_1 (i := 9) rfl rfl), by decide +kernel, by decide +kernel, by decide +kernel, by decide +kernel⟩
theorem jM_begin_v : Cond.instanceMethod jM_begin.1 ∈ mT ∧ Cond.selects jM_begin.1.cls jM_begin.1 jM_begin.1 ∈ mT := ⟨(mT_4 (i := 22) rfl rfl), (mT_s (i := 27) (n := 15) rfl)⟩
abbrev jM_gate : mx_J := (⟨"MovedRegistersModel", "gate", "(II)I"⟩, prog_11_method_10_code, 3, (some .int))
theorem jM_gate_ok : mx_ok mT jM_gate 2 := ⟨(mT_4 (i := 19) rfl rfl), (mT_1 (i := 9) rfl rfl), by decide +kernel, by decide +kernel, by decide +kernel, by decide +kernel⟩
theorem jM_gate_v : Cond.instanceMethod jM_gate.1 ∈ mT ∧ Cond.selects jM_gate.1.cls jM_gate.1 jM_gate.1 ∈ mT := ⟨(mT_4 (i := 17) rfl rfl), (mT_4 (i := 18) rfl rfl)⟩
abbrev jM_wire : mx_J := (⟨"MovedRegistersModel", "wire", "(IIII)V"⟩, prog_11_method_11_code, 8, none)
theorem jM_wire_ok : mx_ok mT jM_wire 4 := ⟨(mT_4 (i := 27) rfl rfl), (mT_1 (i := 9) rfl rfl), by decide +kernel, by decide +kernel, by decide +kernel, by decide +kernel⟩
theorem jM_wire_v : Cond.instanceMethod jM_wire.1 ∈ mT ∧ Cond.selects jM_wire.1.cls jM_wire.1 jM_wire.1 ∈ mT := ⟨(mT_4 (i := 25) rfl rfl), (mT_4 (i := 26) rfl rfl)⟩
abbrev jM_isRegister : mx_J := (⟨"MovedRegistersModel", "isRegister", "(II)Z"⟩, prog_11_method_12_code, 3, (some .boolean))
theorem jM_isRegister_ok : mx_ok mT jM_isRegister 2 := ⟨(mT_4 (i := 50) rfl rfl), (mT_1 (i := 9) rfl rfl), by decide +kernel, by decide +kernel, by decide +kernel, by decide +kernel⟩
theorem jM_isRegister_v : Cond.instanceMethod jM_isRegister.1 ∈ mT ∧ Cond.selects jM_isRegister.1.cls jM_isRegister.1 jM_isRegister.1 ∈ mT := ⟨(mT_4 (i := 49) rfl rfl), (mT_s (i := 31) (n := 15) rfl)⟩
abbrev jM_hold : mx_J := (⟨"MovedRegistersModel", "hold", "(IIII)V"⟩, prog_11_method_13_code, 6, none)
theorem jM_hold_ok : mx_ok mT jM_hold 4 := ⟨(mT_4 (i := 46) rfl rfl), (mT_1 (i := 9) rfl rfl), by decide +kernel, by decide +kernel, by decide +kernel, by decide +kernel⟩
theorem jM_hold_v : Cond.instanceMethod jM_hold.1 ∈ mT ∧ Cond.selects jM_hold.1.cls jM_hold.1 jM_hold.1 ∈ mT := ⟨(mT_4 (i := 44) rfl rfl), (mT_4 (i := 45) rfl rfl)⟩
abbrev jM_held : mx_J := (⟨"MovedRegistersModel", "held", "(III)I"⟩, prog_11_method_14_code, 5, (some .int))
theorem jM_held_ok : mx_ok mT jM_held 3 := ⟨(mT_4 (i := 58) rfl rfl), (mT_1 (i := 9) rfl rfl), by decide +kernel, by decide +kernel, by decide +kernel, by decide +kernel⟩
theorem jM_held_v : Cond.instanceMethod jM_held.1 ∈ mT ∧ Cond.selects jM_held.1.cls jM_held.1 jM_held.1 ∈ mT := ⟨(mT_4 (i := 56) rfl rfl), (mT_4 (i := 57) rfl rfl)⟩
abbrev jM_registers : mx_J := (⟨"MovedRegistersModel", "registers", "(II)I"⟩, prog_11_method_15_code, 4, (some .int))
theorem jM_registers_ok : mx_ok mT jM_registers 2 := ⟨(mT_4 (i := 62) rfl rfl), (mT_1 (i := 9) rfl rfl), by decide +kernel, by decide +kernel, by decide +kernel, by decide +kernel⟩
theorem jM_registers_v : Cond.instanceMethod jM_registers.1 ∈ mT ∧ Cond.selects jM_registers.1.cls jM_registers.1 jM_registers.1 ∈ mT := ⟨(mT_4 (i := 60) rfl rfl), (mT_4 (i := 61) rfl rfl)⟩
abbrev jM_gates : mx_J := (⟨"MovedRegistersModel", "gates", "()I"⟩, prog_11_method_16_code, 1, (some .int))
theorem jM_gates_ok : mx_ok mT jM_gates 0 := ⟨(mT_4 (i := 66) rfl rfl), (mT_1 (i := 9) rfl rfl), by decide +kernel, by decide +kernel, by decide +kernel, by decide +kernel⟩
theorem jM_gates_v : Cond.instanceMethod jM_gates.1 ∈ mT ∧ Cond.selects jM_gates.1.cls jM_gates.1 jM_gates.1 ∈ mT := ⟨(mT_4 (i := 64) rfl rfl), (mT_4 (i := 65) rfl rfl)⟩
abbrev jM_measure : mx_J := (⟨"MovedRegistersModel", "measure", "()V"⟩, prog_11_method_17_code, 6, none)
theorem jM_measure_ok : mx_ok mT jM_measure 0 := ⟨(mT_4 (i := 86) rfl rfl), (mT_1 (i := 9) rfl rfl), by decide +kernel, by decide +kernel, by decide +kernel, by decide +kernel⟩
theorem jM_measure_v : Cond.instanceMethod jM_measure.1 ∈ mT ∧ Cond.selects jM_measure.1.cls jM_measure.1 jM_measure.1 ∈ mT := ⟨(mT_4 (i := 85) rfl rfl), (mT_s (i := 35) (n := 15) rfl)⟩
abbrev jM_weightOf : mx_J := (⟨"MovedRegistersModel", "weightOf", "(II)I"⟩, prog_11_method_18_code, 4, (some .int))
theorem jM_weightOf_ok : mx_ok mT jM_weightOf 2 := ⟨(mT_4 (i := 94) rfl rfl), (mT_1 (i := 9) rfl rfl), by decide +kernel, by decide +kernel, by decide +kernel, by decide +kernel⟩
theorem jM_weightOf_v : Cond.instanceMethod jM_weightOf.1 ∈ mT ∧ Cond.selects jM_weightOf.1.cls jM_weightOf.1 jM_weightOf.1 ∈ mT := ⟨(mT_4 (i := 93) rfl rfl), (mT_s (i := 36) (n := 15) rfl)⟩
abbrev jM_delayOf : mx_J := (⟨"MovedRegistersModel", "delayOf", "(II)I"⟩, prog_11_method_19_code, 3, (some .int))
theorem jM_delayOf_ok : mx_ok mT jM_delayOf 2 := ⟨(mT_4 (i := 98) rfl rfl), (mT_1 (i := 9) rfl rfl), by decide +kernel, by decide +kernel, by decide +kernel, by decide +kernel⟩
theorem jM_delayOf_v : Cond.instanceMethod jM_delayOf.1 ∈ mT ∧ Cond.selects jM_delayOf.1.cls jM_delayOf.1 jM_delayOf.1 ∈ mT := ⟨(mT_4 (i := 97) rfl rfl), (mT_s (i := 37) (n := 15) rfl)⟩
abbrev jM_looped : mx_J := (⟨"MovedRegistersModel", "looped", "()Z"⟩, prog_11_method_20_code, 6, (some .boolean))
theorem jM_looped_ok : mx_ok mT jM_looped 0 := ⟨(mT_4 (i := 78) rfl rfl), (mT_1 (i := 9) rfl rfl), by decide +kernel, by decide +kernel, by decide +kernel, by decide +kernel⟩
theorem jM_looped_v : Cond.instanceMethod jM_looped.1 ∈ mT ∧ Cond.selects jM_looped.1.cls jM_looped.1 jM_looped.1 ∈ mT := ⟨(mT_4 (i := 77) rfl rfl), (mT_s (i := 34) (n := 15) rfl)⟩
abbrev jM_isSound : mx_J := (⟨"MovedRegistersModel", "isSound", "()Z"⟩, prog_11_method_21_code, 5, (some .boolean))
theorem jM_isSound_ok : mx_ok mT jM_isSound 0 := ⟨(mT_4 (i := 74) rfl rfl), (mT_1 (i := 9) rfl rfl), by decide +kernel, by decide +kernel, by decide +kernel, by decide +kernel⟩
theorem jM_isSound_v : Cond.instanceMethod jM_isSound.1 ∈ mT ∧ Cond.selects jM_isSound.1.cls jM_isSound.1 jM_isSound.1 ∈ mT := ⟨(mT_4 (i := 73) rfl rfl), (mT_s (i := 33) (n := 15) rfl)⟩
abbrev jM_sound : mx_J := (⟨"MovedRegistersModel", "sound", "()Z"⟩, prog_11_method_22_code, 1, (some .boolean))
theorem jM_sound_ok : mx_ok mT jM_sound 0 := ⟨(mT_4 (i := 70) rfl rfl), (mT_1 (i := 9) rfl rfl), by decide +kernel, by decide +kernel, by decide +kernel, by decide +kernel⟩
theorem jM_sound_v : Cond.instanceMethod jM_sound.1 ∈ mT ∧ Cond.selects jM_sound.1.cls jM_sound.1 jM_sound.1 ∈ mT := ⟨(mT_4 (i := 68) rfl rfl), (mT_4 (i := 69) rfl rfl)⟩
abbrev jM_period : mx_J := (⟨"MovedRegistersModel", "period", "()I"⟩, prog_11_method_23_code, 4, (some .int))
theorem jM_period_ok : mx_ok mT jM_period 0 := ⟨(mT_4 (i := 82) rfl rfl), (mT_1 (i := 9) rfl rfl), by decide +kernel, by decide +kernel, by decide +kernel, by decide +kernel⟩
theorem jM_period_v : Cond.instanceMethod jM_period.1 ∈ mT ∧ Cond.selects jM_period.1.cls jM_period.1 jM_period.1 ∈ mT := ⟨(mT_4 (i := 80) rfl rfl), (mT_4 (i := 81) rfl rfl)⟩
abbrev jM_weight : mx_J := (⟨"MovedRegistersModel", "weight", "(II)I"⟩, prog_11_method_24_code, 3, (some .int))
theorem jM_weight_ok : mx_ok mT jM_weight 2 := ⟨(mT_4 (i := 102) rfl rfl), (mT_1 (i := 9) rfl rfl), by decide +kernel, by decide +kernel, by decide +kernel, by decide +kernel⟩
theorem jM_weight_v : Cond.instanceMethod jM_weight.1 ∈ mT ∧ Cond.selects jM_weight.1.cls jM_weight.1 jM_weight.1 ∈ mT := ⟨(mT_4 (i := 100) rfl rfl), (mT_4 (i := 101) rfl rfl)⟩
abbrev jM_delay : mx_J := (⟨"MovedRegistersModel", "delay", "(II)I"⟩, prog_11_method_25_code, 3, (some .int))
theorem jM_delay_ok : mx_ok mT jM_delay 2 := ⟨(mT_4 (i := 106) rfl rfl), (mT_1 (i := 9) rfl rfl), by decide +kernel, by decide +kernel, by decide +kernel, by decide +kernel⟩
theorem jM_delay_v : Cond.instanceMethod jM_delay.1 ∈ mT ∧ Cond.selects jM_delay.1.cls jM_delay.1 jM_delay.1 ∈ mT := ⟨(mT_4 (i := 104) rfl rfl), (mT_4 (i := 105) rfl rfl)⟩
abbrev jM_labelOf : mx_J := (⟨"MovedRegistersModel", "labelOf", "(I)I"⟩, prog_11_method_26_code, 2, (some .int))
theorem jM_labelOf_ok : mx_ok mT jM_labelOf 1 := ⟨(mT_4 (i := 122) rfl rfl), (mT_1 (i := 9) rfl rfl), by decide +kernel, by decide +kernel, by decide +kernel, by decide +kernel⟩
theorem jM_labelOf_v : Cond.instanceMethod jM_labelOf.1 ∈ mT ∧ Cond.selects jM_labelOf.1.cls jM_labelOf.1 jM_labelOf.1 ∈ mT := ⟨(mT_4 (i := 121) rfl rfl), (mT_s (i := 40) (n := 15) rfl)⟩
abbrev jM_lower : mx_J := (⟨"MovedRegistersModel", "lower", "(II)Z"⟩, prog_11_method_27_code, 3, (some .boolean))
theorem jM_lower_ok : mx_ok mT jM_lower 2 := ⟨(mT_4 (i := 126) rfl rfl), (mT_1 (i := 9) rfl rfl), by decide +kernel, by decide +kernel, by decide +kernel, by decide +kernel⟩
theorem jM_lower_v : Cond.instanceMethod jM_lower.1 ∈ mT ∧ Cond.selects jM_lower.1.cls jM_lower.1 jM_lower.1 ∈ mT := ⟨(mT_4 (i := 125) rfl rfl), (mT_s (i := 41) (n := 15) rfl)⟩
abbrev jM_lowerAll : mx_J := (⟨"MovedRegistersModel", "lowerAll", "(I)Z"⟩, prog_11_method_28_code, 6, (some .boolean))
theorem jM_lowerAll_ok : mx_ok mT jM_lowerAll 1 := ⟨(mT_4 (i := 118) rfl rfl), (mT_1 (i := 9) rfl rfl), by decide +kernel, by decide +kernel, by decide +kernel, by decide +kernel⟩
theorem jM_lowerAll_v : Cond.instanceMethod jM_lowerAll.1 ∈ mT ∧ Cond.selects jM_lowerAll.1.cls jM_lowerAll.1 jM_lowerAll.1 ∈ mT := ⟨(mT_4 (i := 117) rfl rfl), (mT_s (i := 39) (n := 15) rfl)⟩
abbrev jM_find : mx_J := (⟨"MovedRegistersModel", "find", "(II)Z"⟩, prog_11_method_29_code, 7, (some .boolean))
theorem jM_find_ok : mx_ok mT jM_find 2 := ⟨(mT_4 (i := 114) rfl rfl), (mT_1 (i := 9) rfl rfl), by decide +kernel, by decide +kernel, by decide +kernel, by decide +kernel⟩
theorem jM_find_v : Cond.instanceMethod jM_find.1 ∈ mT ∧ Cond.selects jM_find.1.cls jM_find.1 jM_find.1 ∈ mT := ⟨(mT_4 (i := 113) rfl rfl), (mT_s (i := 38) (n := 15) rfl)⟩
abbrev jM_least : mx_J := (⟨"MovedRegistersModel", "least", "()I"⟩, prog_11_method_30_code, 4, (some .int))
theorem jM_least_ok : mx_ok mT jM_least 0 := ⟨(mT_4 (i := 110) rfl rfl), (mT_1 (i := 9) rfl rfl), by decide +kernel, by decide +kernel, by decide +kernel, by decide +kernel⟩
theorem jM_least_v : Cond.instanceMethod jM_least.1 ∈ mT ∧ Cond.selects jM_least.1.cls jM_least.1 jM_least.1 ∈ mT := ⟨(mT_4 (i := 108) rfl rfl), (mT_4 (i := 109) rfl rfl)⟩
abbrev jM_shared : mx_J := (⟨"MovedRegistersModel", "shared", "()I"⟩, prog_11_method_31_code, 5, (some .int))
theorem jM_shared_ok : mx_ok mT jM_shared 0 := ⟨(mT_4 (i := 130) rfl rfl), (mT_1 (i := 9) rfl rfl), by decide +kernel, by decide +kernel, by decide +kernel, by decide +kernel⟩
theorem jM_shared_v : Cond.instanceMethod jM_shared.1 ∈ mT ∧ Cond.selects jM_shared.1.cls jM_shared.1 jM_shared.1 ∈ mT := ⟨(mT_4 (i := 128) rfl rfl), (mT_4 (i := 129) rfl rfl)⟩
abbrev jM_made : mx_J := (⟨"MovedRegistersModel", "made", "(III)I"⟩, prog_11_method_32_code, 3, (some .int))
theorem jM_made_ok : mx_ok mT jM_made 3 := ⟨(mT_4 (i := 153) rfl rfl), (mT_1 (i := 9) rfl rfl), by decide +kernel, by decide +kernel, by decide +kernel, by decide +kernel⟩
theorem jM_made_v : Cond.static jM_made.1 ∈ mT := (mT_4 (i := 152) rfl rfl)
abbrev jM_push : mx_J := (⟨"MovedRegistersModel", "push", "(II)V"⟩, prog_11_method_33_code, 4, none)
theorem jM_push_ok : mx_ok mT jM_push 2 := ⟨(mT_4 (i := 165) rfl rfl), (mT_1 (i := 9) rfl rfl), by decide +kernel, by decide +kernel, by decide +kernel, by decide +kernel⟩
theorem jM_push_v : Cond.instanceMethod jM_push.1 ∈ mT ∧ Cond.selects jM_push.1.cls jM_push.1 jM_push.1 ∈ mT := ⟨(mT_4 (i := 164) rfl rfl), (mT_s (i := 48) (n := 15) rfl)⟩
abbrev jM_pull : mx_J := (⟨"MovedRegistersModel", "pull", "(I)I"⟩, prog_11_method_34_code, 4, (some .int))
theorem jM_pull_ok : mx_ok mT jM_pull 1 := ⟨(mT_4 (i := 150) rfl rfl), (mT_1 (i := 9) rfl rfl), by decide +kernel, by decide +kernel, by decide +kernel, by decide +kernel⟩
theorem jM_pull_v : Cond.instanceMethod jM_pull.1 ∈ mT ∧ Cond.selects jM_pull.1.cls jM_pull.1 jM_pull.1 ∈ mT := ⟨(mT_4 (i := 149) rfl rfl), (mT_s (i := 45) (n := 15) rfl)⟩
abbrev jM_canForward : mx_J := (⟨"MovedRegistersModel", "canForward", "(I)Z"⟩, prog_11_method_35_code, 4, (some .boolean))
theorem jM_canForward_ok : mx_ok mT jM_canForward 1 := ⟨(mT_4 (i := 142) rfl rfl), (mT_1 (i := 9) rfl rfl), by decide +kernel, by decide +kernel, by decide +kernel, by decide +kernel⟩
theorem jM_canForward_v : Cond.instanceMethod jM_canForward.1 ∈ mT ∧ Cond.selects jM_canForward.1.cls jM_canForward.1 jM_canForward.1 ∈ mT := ⟨(mT_4 (i := 141) rfl rfl), (mT_s (i := 43) (n := 15) rfl)⟩
abbrev jM_forward : mx_J := (⟨"MovedRegistersModel", "forward", "(I)V"⟩, prog_11_method_36_code, 6, none)
theorem jM_forward_ok : mx_ok mT jM_forward 1 := ⟨(mT_4 (i := 146) rfl rfl), (mT_1 (i := 9) rfl rfl), by decide +kernel, by decide +kernel, by decide +kernel, by decide +kernel⟩
theorem jM_forward_v : Cond.instanceMethod jM_forward.1 ∈ mT ∧ Cond.selects jM_forward.1.cls jM_forward.1 jM_forward.1 ∈ mT := ⟨(mT_4 (i := 145) rfl rfl), (mT_s (i := 44) (n := 15) rfl)⟩
abbrev jM_canBackward : mx_J := (⟨"MovedRegistersModel", "canBackward", "(I)Z"⟩, prog_11_method_37_code, 4, (some .boolean))
theorem jM_canBackward_ok : mx_ok mT jM_canBackward 1 := ⟨(mT_4 (i := 157) rfl rfl), (mT_1 (i := 9) rfl rfl), by decide +kernel, by decide +kernel, by decide +kernel, by decide +kernel⟩
theorem jM_canBackward_v : Cond.instanceMethod jM_canBackward.1 ∈ mT ∧ Cond.selects jM_canBackward.1.cls jM_canBackward.1 jM_canBackward.1 ∈ mT := ⟨(mT_4 (i := 156) rfl rfl), (mT_s (i := 46) (n := 15) rfl)⟩
abbrev jM_backward : mx_J := (⟨"MovedRegistersModel", "backward", "(I)Z"⟩, prog_11_method_38_code, 9, (some .boolean))
theorem jM_backward_ok : mx_ok mT jM_backward 1 := ⟨(mT_4 (i := 161) rfl rfl), (mT_1 (i := 9) rfl rfl), by decide +kernel, by decide +kernel, by decide +kernel, by decide +kernel⟩
theorem jM_backward_v : Cond.instanceMethod jM_backward.1 ∈ mT ∧ Cond.selects jM_backward.1.cls jM_backward.1 jM_backward.1 ∈ mT := ⟨(mT_4 (i := 160) rfl rfl), (mT_s (i := 47) (n := 15) rfl)⟩
abbrev jM_follow : mx_J := (⟨"MovedRegistersModel", "follow", "()Z"⟩, prog_11_method_39_code, 3, (some .boolean))
theorem jM_follow_ok : mx_ok mT jM_follow 0 := ⟨(mT_4 (i := 138) rfl rfl), (mT_1 (i := 9) rfl rfl), by decide +kernel, by decide +kernel, by decide +kernel, by decide +kernel⟩
theorem jM_follow_v : Cond.instanceMethod jM_follow.1 ∈ mT ∧ Cond.selects jM_follow.1.cls jM_follow.1 jM_follow.1 ∈ mT := ⟨(mT_4 (i := 137) rfl rfl), (mT_s (i := 42) (n := 15) rfl)⟩
abbrev jM_retime : mx_J := (⟨"MovedRegistersModel", "retime", "(I)I"⟩, prog_11_method_40_code, 4, (some .int))
theorem jM_retime_ok : mx_ok mT jM_retime 1 := ⟨(mT_4 (i := 134) rfl rfl), (mT_1 (i := 9) rfl rfl), by decide +kernel, by decide +kernel, by decide +kernel, by decide +kernel⟩
theorem jM_retime_v : Cond.instanceMethod jM_retime.1 ∈ mT ∧ Cond.selects jM_retime.1.cls jM_retime.1 jM_retime.1 ∈ mT := ⟨(mT_4 (i := 132) rfl rfl), (mT_4 (i := 133) rfl rfl)⟩
abbrev jM_label : mx_J := (⟨"MovedRegistersModel", "label", "(I)I"⟩, prog_11_method_41_code, 2, (some .int))
theorem jM_label_ok : mx_ok mT jM_label 1 := ⟨(mT_4 (i := 169) rfl rfl), (mT_1 (i := 9) rfl rfl), by decide +kernel, by decide +kernel, by decide +kernel, by decide +kernel⟩
theorem jM_label_v : Cond.instanceMethod jM_label.1 ∈ mT ∧ Cond.selects jM_label.1.cls jM_label.1 jM_label.1 ∈ mT := ⟨(mT_4 (i := 167) rfl rfl), (mT_4 (i := 168) rfl rfl)⟩
abbrev jM_input : mx_J := (⟨"MovedRegistersModel", "input", "(IIII)I"⟩, prog_11_method_42_code, 5, (some .int))
theorem jM_input_ok : mx_ok mT jM_input 4 := ⟨(mT_4 (i := 177) rfl rfl), (mT_1 (i := 9) rfl rfl), by decide +kernel, by decide +kernel, by decide +kernel, by decide +kernel⟩
theorem jM_input_v : Cond.instanceMethod jM_input.1 ∈ mT ∧ Cond.selects jM_input.1.cls jM_input.1 jM_input.1 ∈ mT := ⟨(mT_4 (i := 176) rfl rfl), (mT_s (i := 49) (n := 15) rfl)⟩
abbrev jM_tick : mx_J := (⟨"MovedRegistersModel", "tick", "(III)I"⟩, prog_11_method_43_code, 11, (some .int))
theorem jM_tick_ok : mx_ok mT jM_tick 3 := ⟨(mT_4 (i := 173) rfl rfl), (mT_1 (i := 9) rfl rfl), by decide +kernel, by decide +kernel, by decide +kernel, by decide +kernel⟩
theorem jM_tick_v : Cond.instanceMethod jM_tick.1 ∈ mT ∧ Cond.selects jM_tick.1.cls jM_tick.1 jM_tick.1 ∈ mT := ⟨(mT_4 (i := 171) rfl rfl), (mT_4 (i := 172) rfl rfl)⟩
abbrev jM_restart : mx_J := (⟨"MovedRegistersModel", "restart", "()V"⟩, prog_11_method_44_code, 1, none)
theorem jM_restart_ok : mx_ok mT jM_restart 0 := ⟨(mT_4 (i := 181) rfl rfl), (mT_1 (i := 9) rfl rfl), by decide +kernel, by decide +kernel, by decide +kernel, by decide +kernel⟩
theorem jM_restart_v : Cond.instanceMethod jM_restart.1 ∈ mT ∧ Cond.selects jM_restart.1.cls jM_restart.1 jM_restart.1 ∈ mT := ⟨(mT_4 (i := 179) rfl rfl), (mT_4 (i := 180) rfl rfl)⟩
abbrev jB_init : mx_J := (⟨"MovedRegisters$Bank", "<init>", "()V"⟩, prog_2_method_1_code, 1, none)
theorem jB_init_ok : mx_ok mT jB_init 0 := ⟨(mT_1 (i := 65) rfl rfl), (mT_1 (i := 3) rfl rfl), by decide +kernel, by decide +kernel, by decide +kernel, by decide +kernel⟩
abbrev jB_length : mx_J := (⟨"MovedRegisters$Bank", "length", "(I)I"⟩, prog_2_method_2_code, 2, (some .int))
theorem jB_length_ok : mx_ok mT jB_length 1 := ⟨(mT_2 (i := 0) rfl rfl), (mT_1 (i := 3) rfl rfl), by decide +kernel, by decide +kernel, by decide +kernel, by decide +kernel⟩
theorem jB_length_v : Cond.instanceMethod jB_length.1 ∈ mT ∧ Cond.selects jB_length.1.cls jB_length.1 jB_length.1 ∈ mT := ⟨(mT_1 (i := 238) rfl rfl), (mT_1 (i := 239) rfl rfl)⟩
abbrev jB_read : mx_J := (⟨"MovedRegisters$Bank", "read", "(II)I"⟩, prog_2_method_3_code, 3, (some .int))
theorem jB_read_ok : mx_ok mT jB_read 2 := ⟨(mT_2 (i := 190) rfl rfl), (mT_1 (i := 3) rfl rfl), by decide +kernel, by decide +kernel, by decide +kernel, by decide +kernel⟩
theorem jB_read_v : Cond.instanceMethod jB_read.1 ∈ mT ∧ Cond.selects jB_read.1.cls jB_read.1 jB_read.1 ∈ mT := ⟨(mT_2 (i := 188) rfl rfl), (mT_2 (i := 189) rfl rfl)⟩
abbrev jB_write : mx_J := (⟨"MovedRegisters$Bank", "write", "(III)V"⟩, prog_2_method_4_code, 6, none)
theorem jB_write_ok : mx_ok mT jB_write 3 := ⟨(mT_2 (i := 157) rfl rfl), (mT_1 (i := 3) rfl rfl), by decide +kernel, by decide +kernel, by decide +kernel, by decide +kernel⟩
theorem jB_write_v : Cond.instanceMethod jB_write.1 ∈ mT ∧ Cond.selects jB_write.1.cls jB_write.1 jB_write.1 ∈ mT := ⟨(mT_2 (i := 155) rfl rfl), (mT_2 (i := 156) rfl rfl)⟩
abbrev jB_fill : mx_J := (⟨"MovedRegisters$Bank", "fill", "(II)V"⟩, prog_2_method_5_code, 4, none)
theorem jB_fill_ok : mx_ok mT jB_fill 2 := ⟨(mT_2 (i := 149) rfl rfl), (mT_1 (i := 3) rfl rfl), by decide +kernel, by decide +kernel, by decide +kernel, by decide +kernel⟩
theorem jB_fill_v : Cond.instanceMethod jB_fill.1 ∈ mT ∧ Cond.selects jB_fill.1.cls jB_fill.1 jB_fill.1 ∈ mT := ⟨(mT_2 (i := 147) rfl rfl), (mT_2 (i := 148) rfl rfl)⟩
abbrev jB_takeAtSink : mx_J := (⟨"MovedRegisters$Bank", "takeAtSink", "(I)I"⟩, prog_2_method_6_code, 3, (some .int))
theorem jB_takeAtSink_ok : mx_ok mT jB_takeAtSink 1 := ⟨(mT_3 (i := 123) rfl rfl), (mT_1 (i := 3) rfl rfl), by decide +kernel, by decide +kernel, by decide +kernel, by decide +kernel⟩
theorem jB_takeAtSink_v : Cond.instanceMethod jB_takeAtSink.1 ∈ mT ∧ Cond.selects jB_takeAtSink.1.cls jB_takeAtSink.1 jB_takeAtSink.1 ∈ mT := ⟨(mT_3 (i := 121) rfl rfl), (mT_3 (i := 122) rfl rfl)⟩
abbrev jB_putAtSink : mx_J := (⟨"MovedRegisters$Bank", "putAtSink", "(II)V"⟩, prog_2_method_7_code, 3, none)
theorem jB_putAtSink_ok : mx_ok mT jB_putAtSink 2 := ⟨(mT_3 (i := 157) rfl rfl), (mT_1 (i := 3) rfl rfl), by decide +kernel, by decide +kernel, by decide +kernel, by decide +kernel⟩
theorem jB_putAtSink_v : Cond.instanceMethod jB_putAtSink.1 ∈ mT ∧ Cond.selects jB_putAtSink.1.cls jB_putAtSink.1 jB_putAtSink.1 ∈ mT := ⟨(mT_3 (i := 155) rfl rfl), (mT_3 (i := 156) rfl rfl)⟩
abbrev jB_takeAtSource : mx_J := (⟨"MovedRegisters$Bank", "takeAtSource", "(I)I"⟩, prog_2_method_8_code, 2, (some .int))
theorem jB_takeAtSource_ok : mx_ok mT jB_takeAtSource 1 := ⟨(mT_3 (i := 147) rfl rfl), (mT_1 (i := 3) rfl rfl), by decide +kernel, by decide +kernel, by decide +kernel, by decide +kernel⟩
theorem jB_takeAtSource_v : Cond.instanceMethod jB_takeAtSource.1 ∈ mT ∧ Cond.selects jB_takeAtSource.1.cls jB_takeAtSource.1 jB_takeAtSource.1 ∈ mT := ⟨(mT_3 (i := 145) rfl rfl), (mT_3 (i := 146) rfl rfl)⟩
abbrev jB_putAtSource : mx_J := (⟨"MovedRegisters$Bank", "putAtSource", "(II)V"⟩, prog_2_method_9_code, 3, none)
theorem jB_putAtSource_ok : mx_ok mT jB_putAtSource 2 := ⟨(mT_2 (i := 153) rfl rfl), (mT_1 (i := 3) rfl rfl), by decide +kernel, by decide +kernel, by decide +kernel, by decide +kernel⟩
theorem jB_putAtSource_v : Cond.instanceMethod jB_putAtSource.1 ∈ mT ∧ Cond.selects jB_putAtSource.1.cls jB_putAtSource.1 jB_putAtSource.1 ∈ mT := ⟨(mT_2 (i := 151) rfl rfl), (mT_2 (i := 152) rfl rfl)⟩
abbrev jB_copy : mx_J := (⟨"MovedRegisters$Bank", "copy", "(LMovedRegisters$Bank;)V"⟩, prog_2_method_10_code, 2, none)
theorem jB_copy_ok : mx_ok mT jB_copy 1 := ⟨(mT_2 (i := 12) rfl rfl), (mT_1 (i := 3) rfl rfl), by decide +kernel, by decide +kernel, by decide +kernel, by decide +kernel⟩
theorem jB_copy_v : Cond.instanceMethod jB_copy.1 ∈ mT ∧ Cond.selects jB_copy.1.cls jB_copy.1 jB_copy.1 ∈ mT := ⟨(mT_2 (i := 10) rfl rfl), (mT_2 (i := 11) rfl rfl)⟩
abbrev jC_init : mx_J := (⟨"MovedRegisters$Clock", "<init>", "()V"⟩, prog_3_method_1_code, 1, none)
theorem jC_init_ok : mx_ok mT jC_init 0 := ⟨(mT_1 (i := 141) rfl rfl), (mT_1 (i := 8) rfl rfl), by decide +kernel, by decide +kernel, by decide +kernel, by decide +kernel⟩
abbrev jC_begin : mx_J := (⟨"MovedRegisters$Clock", "begin", "(LMovedRegisters$Bank;)V"⟩, prog_3_method_2_code, 2, none)
theorem jC_begin_ok : mx_ok mT jC_begin 1 := ⟨(mT_2 (i := 8) rfl rfl), (mT_1 (i := 8) rfl rfl), by decide +kernel, by decide +kernel, by decide +kernel, by decide +kernel⟩
theorem jC_begin_v : Cond.instanceMethod jC_begin.1 ∈ mT ∧ Cond.selects jC_begin.1.cls jC_begin.1 jC_begin.1 ∈ mT := ⟨(mT_2 (i := 6) rfl rfl), (mT_2 (i := 7) rfl rfl)⟩
abbrev jC_setInputs : mx_J := (⟨"MovedRegisters$Clock", "setInputs", "(III)V"⟩, prog_3_method_3_code, 4, none)
theorem jC_setInputs_ok : mx_ok mT jC_setInputs 3 := ⟨(mT_3 (i := 176) rfl rfl), (mT_1 (i := 8) rfl rfl), by decide +kernel, by decide +kernel, by decide +kernel, by decide +kernel⟩
theorem jC_setInputs_v : Cond.instanceMethod jC_setInputs.1 ∈ mT ∧ Cond.selects jC_setInputs.1.cls jC_setInputs.1 jC_setInputs.1 ∈ mT := ⟨(mT_3 (i := 174) rfl rfl), (mT_3 (i := 175) rfl rfl)⟩
abbrev jC_settle : mx_J := (⟨"MovedRegisters$Clock", "settle", "(LMovedRegisters$Plan;LMovedRegisters$Order;)V"⟩, prog_3_method_4_code, 8, none)
theorem jC_settle_ok : mx_ok mT jC_settle 2 := ⟨(mT_3 (i := 180) rfl rfl), (mT_1 (i := 8) rfl rfl), by decide +kernel, by decide +kernel, by decide +kernel, by decide +kernel⟩
theorem jC_settle_v : Cond.instanceMethod jC_settle.1 ∈ mT ∧ Cond.selects jC_settle.1.cls jC_settle.1 jC_settle.1 ∈ mT := ⟨(mT_3 (i := 178) rfl rfl), (mT_3 (i := 179) rfl rfl)⟩
abbrev jC_outputs : mx_J := (⟨"MovedRegisters$Clock", "outputs", "(LMovedRegisters$Plan;)I"⟩, prog_3_method_5_code, 5, (some .int))
theorem jC_outputs_ok : mx_ok mT jC_outputs 1 := ⟨(mT_3 (i := 193) rfl rfl), (mT_1 (i := 8) rfl rfl), by decide +kernel, by decide +kernel, by decide +kernel, by decide +kernel⟩
theorem jC_outputs_v : Cond.instanceMethod jC_outputs.1 ∈ mT ∧ Cond.selects jC_outputs.1.cls jC_outputs.1 jC_outputs.1 ∈ mT := ⟨(mT_3 (i := 191) rfl rfl), (mT_3 (i := 192) rfl rfl)⟩
abbrev jC_shift : mx_J := (⟨"MovedRegisters$Clock", "shift", "(LMovedRegisters$Plan;)V"⟩, prog_3_method_6_code, 3, none)
theorem jC_shift_ok : mx_ok mT jC_shift 1 := ⟨(mT_3 (i := 197) rfl rfl), (mT_1 (i := 8) rfl rfl), by decide +kernel, by decide +kernel, by decide +kernel, by decide +kernel⟩
theorem jC_shift_v : Cond.instanceMethod jC_shift.1 ∈ mT ∧ Cond.selects jC_shift.1.cls jC_shift.1 jC_shift.1 ∈ mT := ⟨(mT_3 (i := 195) rfl rfl), (mT_3 (i := 196) rfl rfl)⟩
abbrev jC_valueOf : mx_J := (⟨"MovedRegisters$Clock", "valueOf", "(LMovedRegisters$Plan;I)I"⟩, prog_3_method_7_code, 3, (some .int))
theorem jC_valueOf_ok : mx_ok mT jC_valueOf 2 := ⟨(mT_3 (i := 185) rfl rfl), (mT_1 (i := 8) rfl rfl), by decide +kernel, by decide +kernel, by decide +kernel, by decide +kernel⟩
theorem jC_valueOf_v : Cond.instanceMethod jC_valueOf.1 ∈ mT ∧ Cond.selects jC_valueOf.1.cls jC_valueOf.1 jC_valueOf.1 ∈ mT := ⟨(mT_3 (i := 184) rfl rfl), (mT_s (i := 26) (n := 2) rfl)⟩
abbrev jL_init : mx_J := (⟨"MovedRegisters$Limits", "<init>", "()V"⟩, prog_4_method_1_code, 1, none)
theorem jL_init_ok : mx_ok mT jL_init 0 := ⟨(mT_1 (i := 116) rfl rfl), (mT_1 (i := 6) rfl rfl), by decide +kernel, by decide +kernel, by decide +kernel, by decide +kernel⟩
abbrev jL_set : mx_J := (⟨"MovedRegisters$Limits", "set", "(LMovedRegisters$Plan;LMovedRegisters$Bank;LMovedRegisters$Paths;I)V"⟩, prog_4_method_2_code, 7, none)
theorem jL_set_ok : mx_ok mT jL_set 4 := ⟨(mT_3 (i := 41) rfl rfl), (mT_1 (i := 6) rfl rfl), by decide +kernel, by decide +kernel, by decide +kernel, by decide +kernel⟩
theorem jL_set_v : Cond.instanceMethod jL_set.1 ∈ mT ∧ Cond.selects jL_set.1.cls jL_set.1 jL_set.1 ∈ mT := ⟨(mT_3 (i := 39) rfl rfl), (mT_3 (i := 40) rfl rfl)⟩
abbrev jL_solve : mx_J := (⟨"MovedRegisters$Limits", "solve", "(II)Z"⟩, prog_4_method_3_code, 5, (some .boolean))
theorem jL_solve_ok : mx_ok mT jL_solve 2 := ⟨(mT_3 (i := 63) rfl rfl), (mT_1 (i := 6) rfl rfl), by decide +kernel, by decide +kernel, by decide +kernel, by decide +kernel⟩
theorem jL_solve_v : Cond.instanceMethod jL_solve.1 ∈ mT ∧ Cond.selects jL_solve.1.cls jL_solve.1 jL_solve.1 ∈ mT := ⟨(mT_3 (i := 61) rfl rfl), (mT_3 (i := 62) rfl rfl)⟩
abbrev jL_limitWire : mx_J := (⟨"MovedRegisters$Limits", "limitWire", "(III)V"⟩, prog_4_method_4_code, 4, none)
theorem jL_limitWire_ok : mx_ok mT jL_limitWire 3 := ⟨(mT_3 (i := 48) rfl rfl), (mT_1 (i := 6) rfl rfl), by decide +kernel, by decide +kernel, by decide +kernel, by decide +kernel⟩
theorem jL_limitWire_v : Cond.instanceMethod jL_limitWire.1 ∈ mT ∧ Cond.selects jL_limitWire.1.cls jL_limitWire.1 jL_limitWire.1 ∈ mT := ⟨(mT_3 (i := 47) rfl rfl), (mT_s (i := 13) (n := 2) rfl)⟩
abbrev jL_limitPaths : mx_J := (⟨"MovedRegisters$Limits", "limitPaths", "(ILMovedRegisters$Paths;II)V"⟩, prog_4_method_5_code, 6, none)
theorem jL_limitPaths_ok : mx_ok mT jL_limitPaths 4 := ⟨(mT_3 (i := 59) rfl rfl), (mT_1 (i := 6) rfl rfl), by decide +kernel, by decide +kernel, by decide +kernel, by decide +kernel⟩
theorem jL_limitPaths_v : Cond.instanceMethod jL_limitPaths.1 ∈ mT ∧ Cond.selects jL_limitPaths.1.cls jL_limitPaths.1 jL_limitPaths.1 ∈ mT := ⟨(mT_3 (i := 58) rfl rfl), (mT_s (i := 15) (n := 2) rfl)⟩
abbrev jL_limit : mx_J := (⟨"MovedRegisters$Limits", "limit", "(III)V"⟩, prog_4_method_6_code, 4, none)
theorem jL_limit_ok : mx_ok mT jL_limit 3 := ⟨(mT_3 (i := 52) rfl rfl), (mT_1 (i := 6) rfl rfl), by decide +kernel, by decide +kernel, by decide +kernel, by decide +kernel⟩
theorem jL_limit_v : Cond.instanceMethod jL_limit.1 ∈ mT ∧ Cond.selects jL_limit.1.cls jL_limit.1 jL_limit.1 ∈ mT := ⟨(mT_3 (i := 51) rfl rfl), (mT_s (i := 14) (n := 2) rfl)⟩
abbrev jL_lowerAll : mx_J := (⟨"MovedRegisters$Limits", "lowerAll", "(I)Z"⟩, prog_4_method_7_code, 5, (some .boolean))
theorem jL_lowerAll_ok : mx_ok mT jL_lowerAll 1 := ⟨(mT_3 (i := 67) rfl rfl), (mT_1 (i := 6) rfl rfl), by decide +kernel, by decide +kernel, by decide +kernel, by decide +kernel⟩
theorem jL_lowerAll_v : Cond.instanceMethod jL_lowerAll.1 ∈ mT ∧ Cond.selects jL_lowerAll.1.cls jL_lowerAll.1 jL_lowerAll.1 ∈ mT := ⟨(mT_3 (i := 66) rfl rfl), (mT_s (i := 16) (n := 2) rfl)⟩
abbrev jL_areAllowed : mx_J := (⟨"MovedRegisters$Limits", "areAllowed", "(I)Z"⟩, prog_4_method_8_code, 3, (some .boolean))
theorem jL_areAllowed_ok : mx_ok mT jL_areAllowed 1 := ⟨(mT_3 (i := 71) rfl rfl), (mT_1 (i := 6) rfl rfl), by decide +kernel, by decide +kernel, by decide +kernel, by decide +kernel⟩
theorem jL_areAllowed_v : Cond.instanceMethod jL_areAllowed.1 ∈ mT ∧ Cond.selects jL_areAllowed.1.cls jL_areAllowed.1 jL_areAllowed.1 ∈ mT := ⟨(mT_3 (i := 70) rfl rfl), (mT_s (i := 17) (n := 2) rfl)⟩
abbrev jG_made : mx_J := (⟨"MovedRegisters$Logic", "made", "(III)I"⟩, prog_5_method_2_code, 3, (some .int))
theorem jG_made_ok : mx_ok mT jG_made 3 := ⟨(mT_3 (i := 128) rfl rfl), (mT_1 (i := 19) rfl rfl), by decide +kernel, by decide +kernel, by decide +kernel, by decide +kernel⟩
theorem jG_made_v : Cond.static jG_made.1 ∈ mT := (mT_3 (i := 127) rfl rfl)
abbrev jG_needed : mx_J := (⟨"MovedRegisters$Logic", "needed", "(III)I"⟩, prog_5_method_3_code, 3, (some .int))
theorem jG_needed_ok : mx_ok mT jG_needed 3 := ⟨(mT_3 (i := 153) rfl rfl), (mT_1 (i := 19) rfl rfl), by decide +kernel, by decide +kernel, by decide +kernel, by decide +kernel⟩
theorem jG_needed_v : Cond.static jG_needed.1 ∈ mT := (mT_3 (i := 152) rfl rfl)
abbrev jG_opposite : mx_J := (⟨"MovedRegisters$Logic", "opposite", "(I)I"⟩, prog_5_method_4_code, 1, (some .int))
theorem jG_opposite_ok : mx_ok mT jG_opposite 1 := ⟨(mT_3 (i := 131) rfl rfl), (mT_1 (i := 19) rfl rfl), by decide +kernel, by decide +kernel, by decide +kernel, by decide +kernel⟩
theorem jG_opposite_v : Cond.static jG_opposite.1 ∈ mT := (mT_3 (i := 130) rfl rfl)
abbrev jG_ruled : mx_J := (⟨"MovedRegisters$Logic", "ruled", "(III)I"⟩, prog_5_method_5_code, 3, (some .int))
theorem jG_ruled_ok : mx_ok mT jG_ruled 3 := ⟨(mT_3 (i := 134) rfl rfl), (mT_1 (i := 19) rfl rfl), by decide +kernel, by decide +kernel, by decide +kernel, by decide +kernel⟩
theorem jG_ruled_v : Cond.static jG_ruled.1 ∈ mT := (mT_3 (i := 133) rfl rfl)
abbrev jV_init : mx_J := (⟨"MovedRegisters$Mover", "<init>", "()V"⟩, prog_6_method_1_code, 1, none)
theorem jV_init_ok : mx_ok mT jV_init 0 := ⟨(mT_1 (i := 131) rfl rfl), (mT_1 (i := 7) rfl rfl), by decide +kernel, by decide +kernel, by decide +kernel, by decide +kernel⟩
abbrev jV_follow : mx_J := (⟨"MovedRegisters$Mover", "follow", "(LMovedRegisters$Plan;LMovedRegisters$Bank;[I)Z"⟩, prog_6_method_2_code, 5, (some .boolean))
theorem jV_follow_ok : mx_ok mT jV_follow 3 := ⟨(mT_3 (i := 99) rfl rfl), (mT_1 (i := 7) rfl rfl), by decide +kernel, by decide +kernel, by decide +kernel, by decide +kernel⟩
theorem jV_follow_v : Cond.instanceMethod jV_follow.1 ∈ mT ∧ Cond.selects jV_follow.1.cls jV_follow.1 jV_follow.1 ∈ mT := ⟨(mT_3 (i := 97) rfl rfl), (mT_3 (i := 98) rfl rfl)⟩
abbrev jV_isDone : mx_J := (⟨"MovedRegisters$Mover", "isDone", "(I)Z"⟩, prog_6_method_3_code, 3, (some .boolean))
theorem jV_isDone_ok : mx_ok mT jV_isDone 1 := ⟨(mT_3 (i := 104) rfl rfl), (mT_1 (i := 7) rfl rfl), by decide +kernel, by decide +kernel, by decide +kernel, by decide +kernel⟩
theorem jV_isDone_v : Cond.instanceMethod jV_isDone.1 ∈ mT ∧ Cond.selects jV_isDone.1.cls jV_isDone.1 jV_isDone.1 ∈ mT := ⟨(mT_3 (i := 103) rfl rfl), (mT_s (i := 20) (n := 1) rfl)⟩
abbrev jV_moveEach : mx_J := (⟨"MovedRegisters$Mover", "moveEach", "(LMovedRegisters$Plan;LMovedRegisters$Bank;)Z"⟩, prog_6_method_4_code, 4, (some .boolean))
theorem jV_moveEach_ok : mx_ok mT jV_moveEach 2 := ⟨(mT_3 (i := 108) rfl rfl), (mT_1 (i := 7) rfl rfl), by decide +kernel, by decide +kernel, by decide +kernel, by decide +kernel⟩
theorem jV_moveEach_v : Cond.instanceMethod jV_moveEach.1 ∈ mT ∧ Cond.selects jV_moveEach.1.cls jV_moveEach.1 jV_moveEach.1 ∈ mT := ⟨(mT_3 (i := 107) rfl rfl), (mT_s (i := 21) (n := 1) rfl)⟩
abbrev jV_canForward : mx_J := (⟨"MovedRegisters$Mover", "canForward", "(LMovedRegisters$Plan;LMovedRegisters$Bank;I)Z"⟩, prog_6_method_5_code, 5, (some .boolean))
theorem jV_canForward_ok : mx_ok mT jV_canForward 3 := ⟨(mT_3 (i := 112) rfl rfl), (mT_1 (i := 7) rfl rfl), by decide +kernel, by decide +kernel, by decide +kernel, by decide +kernel⟩
theorem jV_canForward_v : Cond.instanceMethod jV_canForward.1 ∈ mT ∧ Cond.selects jV_canForward.1.cls jV_canForward.1 jV_canForward.1 ∈ mT := ⟨(mT_3 (i := 111) rfl rfl), (mT_s (i := 22) (n := 1) rfl)⟩
abbrev jV_canBackward : mx_J := (⟨"MovedRegisters$Mover", "canBackward", "(LMovedRegisters$Plan;LMovedRegisters$Bank;I)Z"⟩, prog_6_method_6_code, 5, (some .boolean))
theorem jV_canBackward_ok : mx_ok mT jV_canBackward 3 := ⟨(mT_3 (i := 139) rfl rfl), (mT_1 (i := 7) rfl rfl), by decide +kernel, by decide +kernel, by decide +kernel, by decide +kernel⟩
theorem jV_canBackward_v : Cond.instanceMethod jV_canBackward.1 ∈ mT ∧ Cond.selects jV_canBackward.1.cls jV_canBackward.1 jV_canBackward.1 ∈ mT := ⟨(mT_3 (i := 138) rfl rfl), (mT_s (i := 24) (n := 1) rfl)⟩
abbrev jV_forward : mx_J := (⟨"MovedRegisters$Mover", "forward", "(LMovedRegisters$Plan;LMovedRegisters$Bank;I)V"⟩, prog_6_method_7_code, 9, none)
theorem jV_forward_ok : mx_ok mT jV_forward 3 := ⟨(mT_3 (i := 119) rfl rfl), (mT_1 (i := 7) rfl rfl), by decide +kernel, by decide +kernel, by decide +kernel, by decide +kernel⟩
theorem jV_forward_v : Cond.instanceMethod jV_forward.1 ∈ mT ∧ Cond.selects jV_forward.1.cls jV_forward.1 jV_forward.1 ∈ mT := ⟨(mT_3 (i := 118) rfl rfl), (mT_s (i := 23) (n := 1) rfl)⟩
abbrev jV_backward : mx_J := (⟨"MovedRegisters$Mover", "backward", "(LMovedRegisters$Plan;LMovedRegisters$Bank;I)Z"⟩, prog_6_method_8_code, 7, (some .boolean))
theorem jV_backward_ok : mx_ok mT jV_backward 3 := ⟨(mT_3 (i := 143) rfl rfl), (mT_1 (i := 7) rfl rfl), by decide +kernel, by decide +kernel, by decide +kernel, by decide +kernel⟩
theorem jV_backward_v : Cond.instanceMethod jV_backward.1 ∈ mT ∧ Cond.selects jV_backward.1.cls jV_backward.1 jV_backward.1 ∈ mT := ⟨(mT_3 (i := 142) rfl rfl), (mT_s (i := 25) (n := 1) rfl)⟩
abbrev jV_joined : mx_J := (⟨"MovedRegisters$Mover", "joined", "(II)I"⟩, prog_6_method_9_code, 2, (some .int))
theorem jV_joined_ok : mx_ok mT jV_joined 2 := ⟨(mT_3 (i := 150) rfl rfl), (mT_1 (i := 7) rfl rfl), by decide +kernel, by decide +kernel, by decide +kernel, by decide +kernel⟩
theorem jV_joined_v : Cond.static jV_joined.1 ∈ mT := (mT_3 (i := 149) rfl rfl)
abbrev jO_init : mx_J := (⟨"MovedRegisters$Order", "<init>", "()V"⟩, prog_7_method_1_code, 1, none)
theorem jO_init_ok : mx_ok mT jO_init 0 := ⟨(mT_1 (i := 79) rfl rfl), (mT_1 (i := 4) rfl rfl), by decide +kernel, by decide +kernel, by decide +kernel, by decide +kernel⟩
abbrev jO_arrange : mx_J := (⟨"MovedRegisters$Order", "arrange", "(LMovedRegisters$Plan;LMovedRegisters$Bank;)Z"⟩, prog_7_method_2_code, 4, (some .boolean))
theorem jO_arrange_ok : mx_ok mT jO_arrange 2 := ⟨(mT_1 (i := 219) rfl rfl), (mT_1 (i := 4) rfl rfl), by decide +kernel, by decide +kernel, by decide +kernel, by decide +kernel⟩
theorem jO_arrange_v : Cond.instanceMethod jO_arrange.1 ∈ mT ∧ Cond.selects jO_arrange.1.cls jO_arrange.1 jO_arrange.1 ∈ mT := ⟨(mT_1 (i := 217) rfl rfl), (mT_1 (i := 218) rfl rfl)⟩
abbrev jO_placeReady : mx_J := (⟨"MovedRegisters$Order", "placeReady", "(LMovedRegisters$Plan;LMovedRegisters$Bank;)V"⟩, prog_7_method_3_code, 4, none)
theorem jO_placeReady_ok : mx_ok mT jO_placeReady 2 := ⟨(mT_1 (i := 223) rfl rfl), (mT_1 (i := 4) rfl rfl), by decide +kernel, by decide +kernel, by decide +kernel, by decide +kernel⟩
theorem jO_placeReady_v : Cond.instanceMethod jO_placeReady.1 ∈ mT ∧ Cond.selects jO_placeReady.1.cls jO_placeReady.1 jO_placeReady.1 ∈ mT := ⟨(mT_1 (i := 222) rfl rfl), (mT_s (i := 3) (n := 3) rfl)⟩
abbrev jO_isReady : mx_J := (⟨"MovedRegisters$Order", "isReady", "(LMovedRegisters$Plan;LMovedRegisters$Bank;I)Z"⟩, prog_7_method_4_code, 6, (some .boolean))
theorem jO_isReady_ok : mx_ok mT jO_isReady 3 := ⟨(mT_1 (i := 227) rfl rfl), (mT_1 (i := 4) rfl rfl), by decide +kernel, by decide +kernel, by decide +kernel, by decide +kernel⟩
theorem jO_isReady_v : Cond.instanceMethod jO_isReady.1 ∈ mT ∧ Cond.selects jO_isReady.1.cls jO_isReady.1 jO_isReady.1 ∈ mT := ⟨(mT_1 (i := 226) rfl rfl), (mT_s (i := 4) (n := 3) rfl)⟩
abbrev jH_init : mx_J := (⟨"MovedRegisters$Paths", "<init>", "()V"⟩, prog_8_method_1_code, 1, none)
theorem jH_init_ok : mx_ok mT jH_init 0 := ⟨(mT_1 (i := 97) rfl rfl), (mT_1 (i := 5) rfl rfl), by decide +kernel, by decide +kernel, by decide +kernel, by decide +kernel⟩
abbrev jH_measure : mx_J := (⟨"MovedRegisters$Paths", "measure", "(LMovedRegisters$Plan;LMovedRegisters$Bank;)V"⟩, prog_8_method_2_code, 5, none)
theorem jH_measure_ok : mx_ok mT jH_measure 2 := ⟨(mT_2 (i := 228) rfl rfl), (mT_1 (i := 5) rfl rfl), by decide +kernel, by decide +kernel, by decide +kernel, by decide +kernel⟩
theorem jH_measure_v : Cond.instanceMethod jH_measure.1 ∈ mT ∧ Cond.selects jH_measure.1.cls jH_measure.1 jH_measure.1 ∈ mT := ⟨(mT_2 (i := 226) rfl rfl), (mT_2 (i := 227) rfl rfl)⟩
abbrev jH_longestUnregistered : mx_J := (⟨"MovedRegisters$Paths", "longestUnregistered", "(I)I"⟩, prog_8_method_3_code, 5, (some .int))
theorem jH_longestUnregistered_ok : mx_ok mT jH_longestUnregistered 1 := ⟨(mT_3 (i := 10) rfl rfl), (mT_1 (i := 5) rfl rfl), by decide +kernel, by decide +kernel, by decide +kernel, by decide +kernel⟩
theorem jH_longestUnregistered_v : Cond.instanceMethod jH_longestUnregistered.1 ∈ mT ∧ Cond.selects jH_longestUnregistered.1.cls jH_longestUnregistered.1 jH_longestUnregistered.1 ∈ mT := ⟨(mT_3 (i := 8) rfl rfl), (mT_3 (i := 9) rfl rfl)⟩
abbrev jH_offerWire : mx_J := (⟨"MovedRegisters$Paths", "offerWire", "(LMovedRegisters$Plan;LMovedRegisters$Bank;I)V"⟩, prog_8_method_4_code, 6, none)
theorem jH_offerWire_ok : mx_ok mT jH_offerWire 3 := ⟨(mT_2 (i := 236) rfl rfl), (mT_1 (i := 5) rfl rfl), by decide +kernel, by decide +kernel, by decide +kernel, by decide +kernel⟩
theorem jH_offerWire_v : Cond.instanceMethod jH_offerWire.1 ∈ mT ∧ Cond.selects jH_offerWire.1.cls jH_offerWire.1 jH_offerWire.1 ∈ mT := ⟨(mT_2 (i := 235) rfl rfl), (mT_s (i := 10) (n := 2) rfl)⟩
abbrev jH_offerOver : mx_J := (⟨"MovedRegisters$Paths", "offerOver", "(LMovedRegisters$Plan;II)V"⟩, prog_8_method_5_code, 6, none)
theorem jH_offerOver_ok : mx_ok mT jH_offerOver 3 := ⟨(mT_3 (i := 6) rfl rfl), (mT_1 (i := 5) rfl rfl), by decide +kernel, by decide +kernel, by decide +kernel, by decide +kernel⟩
theorem jH_offerOver_v : Cond.instanceMethod jH_offerOver.1 ∈ mT ∧ Cond.selects jH_offerOver.1.cls jH_offerOver.1 jH_offerOver.1 ∈ mT := ⟨(mT_3 (i := 5) rfl rfl), (mT_s (i := 11) (n := 2) rfl)⟩
abbrev jH_offer : mx_J := (⟨"MovedRegisters$Paths", "offer", "(IIII)V"⟩, prog_8_method_6_code, 6, none)
theorem jH_offer_ok : mx_ok mT jH_offer 4 := ⟨(mT_2 (i := 232) rfl rfl), (mT_1 (i := 5) rfl rfl), by decide +kernel, by decide +kernel, by decide +kernel, by decide +kernel⟩
theorem jH_offer_v : Cond.instanceMethod jH_offer.1 ∈ mT ∧ Cond.selects jH_offer.1.cls jH_offer.1 jH_offer.1 ∈ mT := ⟨(mT_2 (i := 231) rfl rfl), (mT_s (i := 9) (n := 2) rfl)⟩
abbrev jP_init : mx_J := (⟨"MovedRegisters$Plan", "<init>", "()V"⟩, prog_9_method_1_code, 1, none)
theorem jP_init_ok : mx_ok mT jP_init 0 := ⟨(mT_1 (i := 32) rfl rfl), (mT_1 (i := 2) rfl rfl), by decide +kernel, by decide +kernel, by decide +kernel, by decide +kernel⟩
abbrev jP_addGate : mx_J := (⟨"MovedRegisters$Plan", "addGate", "(II)V"⟩, prog_9_method_2_code, 3, none)
theorem jP_addGate_ok : mx_ok mT jP_addGate 2 := ⟨(mT_2 (i := 107) rfl rfl), (mT_1 (i := 2) rfl rfl), by decide +kernel, by decide +kernel, by decide +kernel, by decide +kernel⟩
theorem jP_addGate_v : Cond.instanceMethod jP_addGate.1 ∈ mT ∧ Cond.selects jP_addGate.1.cls jP_addGate.1 jP_addGate.1 ∈ mT := ⟨(mT_2 (i := 105) rfl rfl), (mT_2 (i := 106) rfl rfl)⟩
abbrev jP_hasGate : mx_J := (⟨"MovedRegisters$Plan", "hasGate", "(I)Z"⟩, prog_9_method_3_code, 2, (some .boolean))
theorem jP_hasGate_ok : mx_ok mT jP_hasGate 1 := ⟨(mT_2 (i := 123) rfl rfl), (mT_1 (i := 2) rfl rfl), by decide +kernel, by decide +kernel, by decide +kernel, by decide +kernel⟩
theorem jP_hasGate_v : Cond.instanceMethod jP_hasGate.1 ∈ mT ∧ Cond.selects jP_hasGate.1.cls jP_hasGate.1 jP_hasGate.1 ∈ mT := ⟨(mT_2 (i := 121) rfl rfl), (mT_2 (i := 122) rfl rfl)⟩
abbrev jP_hasEnd : mx_J := (⟨"MovedRegisters$Plan", "hasEnd", "(I)Z"⟩, prog_9_method_4_code, 2, (some .boolean))
theorem jP_hasEnd_ok : mx_ok mT jP_hasEnd 1 := ⟨(mT_2 (i := 119) rfl rfl), (mT_1 (i := 2) rfl rfl), by decide +kernel, by decide +kernel, by decide +kernel, by decide +kernel⟩
theorem jP_hasEnd_v : Cond.instanceMethod jP_hasEnd.1 ∈ mT ∧ Cond.selects jP_hasEnd.1.cls jP_hasEnd.1 jP_hasEnd.1 ∈ mT := ⟨(mT_2 (i := 117) rfl rfl), (mT_2 (i := 118) rfl rfl)⟩
abbrev jP_placeOf : mx_J := (⟨"MovedRegisters$Plan", "placeOf", "(II)I"⟩, prog_9_method_5_code, 3, (some .int))
theorem jP_placeOf_ok : mx_ok mT jP_placeOf 2 := ⟨(mT_2 (i := 145) rfl rfl), (mT_1 (i := 2) rfl rfl), by decide +kernel, by decide +kernel, by decide +kernel, by decide +kernel⟩
theorem jP_placeOf_v : Cond.instanceMethod jP_placeOf.1 ∈ mT ∧ Cond.selects jP_placeOf.1.cls jP_placeOf.1 jP_placeOf.1 ∈ mT := ⟨(mT_2 (i := 143) rfl rfl), (mT_2 (i := 144) rfl rfl)⟩
abbrev jP_pinsOf : mx_J := (⟨"MovedRegisters$Plan", "pinsOf", "(I)I"⟩, prog_9_method_6_code, 2, (some .int))
theorem jP_pinsOf_ok : mx_ok mT jP_pinsOf 1 := ⟨(mT_1 (i := 211) rfl rfl), (mT_1 (i := 2) rfl rfl), by decide +kernel, by decide +kernel, by decide +kernel, by decide +kernel⟩
theorem jP_pinsOf_v : Cond.instanceMethod jP_pinsOf.1 ∈ mT ∧ Cond.selects jP_pinsOf.1.cls jP_pinsOf.1 jP_pinsOf.1 ∈ mT := ⟨(mT_1 (i := 209) rfl rfl), (mT_1 (i := 210) rfl rfl)⟩
abbrev jP_firstPin : mx_J := (⟨"MovedRegisters$Plan", "firstPin", "(I)I"⟩, prog_9_method_7_code, 2, (some .int))
theorem jP_firstPin_ok : mx_ok mT jP_firstPin 1 := ⟨(mT_1 (i := 203) rfl rfl), (mT_1 (i := 2) rfl rfl), by decide +kernel, by decide +kernel, by decide +kernel, by decide +kernel⟩
theorem jP_firstPin_v : Cond.instanceMethod jP_firstPin.1 ∈ mT ∧ Cond.selects jP_firstPin.1.cls jP_firstPin.1 jP_firstPin.1 ∈ mT := ⟨(mT_1 (i := 201) rfl rfl), (mT_1 (i := 202) rfl rfl)⟩
abbrev jP_endOfPins : mx_J := (⟨"MovedRegisters$Plan", "endOfPins", "(I)I"⟩, prog_9_method_8_code, 2, (some .int))
theorem jP_endOfPins_ok : mx_ok mT jP_endOfPins 1 := ⟨(mT_1 (i := 207) rfl rfl), (mT_1 (i := 2) rfl rfl), by decide +kernel, by decide +kernel, by decide +kernel, by decide +kernel⟩
theorem jP_endOfPins_v : Cond.instanceMethod jP_endOfPins.1 ∈ mT ∧ Cond.selects jP_endOfPins.1.cls jP_endOfPins.1 jP_endOfPins.1 ∈ mT := ⟨(mT_1 (i := 205) rfl rfl), (mT_1 (i := 206) rfl rfl)⟩
abbrev jP_gateBehind : mx_J := (⟨"MovedRegisters$Plan", "gateBehind", "(I)I"⟩, prog_9_method_9_code, 2, (some .int))
theorem jP_gateBehind_ok : mx_ok mT jP_gateBehind 1 := ⟨(mT_1 (i := 233) rfl rfl), (mT_1 (i := 2) rfl rfl), by decide +kernel, by decide +kernel, by decide +kernel, by decide +kernel⟩
theorem jP_gateBehind_v : Cond.instanceMethod jP_gateBehind.1 ∈ mT ∧ Cond.selects jP_gateBehind.1.cls jP_gateBehind.1 jP_gateBehind.1 ∈ mT := ⟨(mT_1 (i := 231) rfl rfl), (mT_1 (i := 232) rfl rfl)⟩
abbrev jP_gateBefore : mx_J := (⟨"MovedRegisters$Plan", "gateBefore", "(I)I"⟩, prog_9_method_10_code, 2, (some .int))
theorem jP_gateBefore_ok : mx_ok mT jP_gateBefore 1 := ⟨(mT_3 (i := 1) rfl rfl), (mT_1 (i := 2) rfl rfl), by decide +kernel, by decide +kernel, by decide +kernel, by decide +kernel⟩
theorem jP_gateBefore_v : Cond.instanceMethod jP_gateBefore.1 ∈ mT ∧ Cond.selects jP_gateBefore.1.cls jP_gateBefore.1 jP_gateBefore.1 ∈ mT := ⟨(mT_2 (i := 239) rfl rfl), (mT_3 (i := 0) rfl rfl)⟩
abbrev jP_isComplete : mx_J := (⟨"MovedRegisters$Plan", "isComplete", "()Z"⟩, prog_9_method_11_code, 2, (some .boolean))
theorem jP_isComplete_ok : mx_ok mT jP_isComplete 0 := ⟨(mT_1 (i := 195) rfl rfl), (mT_1 (i := 2) rfl rfl), by decide +kernel, by decide +kernel, by decide +kernel, by decide +kernel⟩
theorem jP_isComplete_v : Cond.instanceMethod jP_isComplete.1 ∈ mT ∧ Cond.selects jP_isComplete.1.cls jP_isComplete.1 jP_isComplete.1 ∈ mT := ⟨(mT_1 (i := 193) rfl rfl), (mT_1 (i := 194) rfl rfl)⟩
abbrev jP_isPort : mx_J := (⟨"MovedRegisters$Plan", "isPort", "(I)Z"⟩, prog_9_method_12_code, 1, (some .boolean))
theorem jP_isPort_ok : mx_ok mT jP_isPort 1 := ⟨(mT_2 (i := 126) rfl rfl), (mT_1 (i := 2) rfl rfl), by decide +kernel, by decide +kernel, by decide +kernel, by decide +kernel⟩
theorem jP_isPort_v : Cond.static jP_isPort.1 ∈ mT := (mT_2 (i := 125) rfl rfl)
abbrev jP_hasAllPins : mx_J := (⟨"MovedRegisters$Plan", "hasAllPins", "(I)Z"⟩, prog_9_method_13_code, 3, (some .boolean))
theorem jP_hasAllPins_ok : mx_ok mT jP_hasAllPins 1 := ⟨(mT_1 (i := 199) rfl rfl), (mT_1 (i := 2) rfl rfl), by decide +kernel, by decide +kernel, by decide +kernel, by decide +kernel⟩
theorem jP_hasAllPins_v : Cond.instanceMethod jP_hasAllPins.1 ∈ mT ∧ Cond.selects jP_hasAllPins.1.cls jP_hasAllPins.1 jP_hasAllPins.1 ∈ mT := ⟨(mT_1 (i := 198) rfl rfl), (mT_s (i := 1) (n := 4) rfl)⟩
abbrev jP_isSource : mx_J := (⟨"MovedRegisters$Plan", "isSource", "(I)Z"⟩, prog_9_method_14_code, 3, (some .boolean))
theorem jP_isSource_ok : mx_ok mT jP_isSource 1 := ⟨(mT_1 (i := 215) rfl rfl), (mT_1 (i := 2) rfl rfl), by decide +kernel, by decide +kernel, by decide +kernel, by decide +kernel⟩
theorem jP_isSource_v : Cond.instanceMethod jP_isSource.1 ∈ mT ∧ Cond.selects jP_isSource.1.cls jP_isSource.1 jP_isSource.1 ∈ mT := ⟨(mT_1 (i := 214) rfl rfl), (mT_s (i := 2) (n := 4) rfl)⟩
theorem lkA_11 : mx_lk mT "MovedRegisters" 11 jP_init.1 := Or.inr ⟨"MovedRegisters", (mT_1 (i := 30) rfl rfl)⟩
theorem fgP_21 : mx_fg mT mCl "MovedRegisters$Plan" 21 1 0 := ⟨"MovedRegisters$Plan", F_P, 4, rfl, by decide, fw_P, Or.inl (mT_1 (i := 34) rfl rfl)⟩
theorem fpP_21 : mx_fp mT mCl "MovedRegisters$Plan" 21 1 0 (.int) := ⟨"MovedRegisters$Plan", F_P, 4, t_P, rfl, by decide, fw_P, Or.inl (mT_1 (i := 34) rfl rfl), t_P_ok, n_P, rfl, by decide +kernel⟩
theorem fgH_19 : mx_fg mT mCl "MovedRegisters$Paths" 19 1 0 := ⟨"MovedRegisters$Plan", F_P, 4, rfl, by decide, fw_P, Or.inl (mT_1 (i := 35) rfl rfl)⟩
theorem fpH_19 : mx_fp mT mCl "MovedRegisters$Paths" 19 1 0 (.int) := ⟨"MovedRegisters$Plan", F_P, 4, t_P, rfl, by decide, fw_P, Or.inl (mT_1 (i := 35) rfl rfl), t_P_ok, n_P, rfl, by decide +kernel⟩
theorem fgL_20 : mx_fg mT mCl "MovedRegisters$Limits" 20 1 0 := ⟨"MovedRegisters$Plan", F_P, 4, rfl, by decide, fw_P, Or.inl (mT_1 (i := 36) rfl rfl)⟩
theorem fpL_20 : mx_fp mT mCl "MovedRegisters$Limits" 20 1 0 (.int) := ⟨"MovedRegisters$Plan", F_P, 4, t_P, rfl, by decide, fw_P, Or.inl (mT_1 (i := 36) rfl rfl), t_P_ok, n_P, rfl, by decide +kernel⟩
theorem fgV_15 : mx_fg mT mCl "MovedRegisters$Mover" 15 1 0 := ⟨"MovedRegisters$Plan", F_P, 4, rfl, by decide, fw_P, Or.inl (mT_1 (i := 37) rfl rfl)⟩
theorem fpV_15 : mx_fp mT mCl "MovedRegisters$Mover" 15 1 0 (.int) := ⟨"MovedRegisters$Plan", F_P, 4, t_P, rfl, by decide, fw_P, Or.inl (mT_1 (i := 37) rfl rfl), t_P_ok, n_P, rfl, by decide +kernel⟩
theorem fgO_23 : mx_fg mT mCl "MovedRegisters$Order" 23 1 0 := ⟨"MovedRegisters$Plan", F_P, 4, rfl, by decide, fw_P, Or.inl (mT_1 (i := 38) rfl rfl)⟩
theorem fpO_23 : mx_fp mT mCl "MovedRegisters$Order" 23 1 0 (.int) := ⟨"MovedRegisters$Plan", F_P, 4, t_P, rfl, by decide, fw_P, Or.inl (mT_1 (i := 38) rfl rfl), t_P_ok, n_P, rfl, by decide +kernel⟩
theorem fgA_68 : mx_fg mT mCl "MovedRegisters" 68 1 0 := ⟨"MovedRegisters$Plan", F_P, 4, rfl, by decide, fw_P, Or.inl (mT_1 (i := 39) rfl rfl)⟩
theorem fpA_68 : mx_fp mT mCl "MovedRegisters" 68 1 0 (.int) := ⟨"MovedRegisters$Plan", F_P, 4, t_P, rfl, by decide, fw_P, Or.inl (mT_1 (i := 39) rfl rfl), t_P_ok, n_P, rfl, by decide +kernel⟩
theorem fgC_26 : mx_fg mT mCl "MovedRegisters$Clock" 26 1 0 := ⟨"MovedRegisters$Plan", F_P, 4, rfl, by decide, fw_P, Or.inl (mT_1 (i := 40) rfl rfl)⟩
theorem fpC_26 : mx_fp mT mCl "MovedRegisters$Clock" 26 1 0 (.int) := ⟨"MovedRegisters$Plan", F_P, 4, t_P, rfl, by decide, fw_P, Or.inl (mT_1 (i := 40) rfl rfl), t_P_ok, n_P, rfl, by decide +kernel⟩
theorem fgP_9 : mx_fg mT mCl "MovedRegisters$Plan" 9 1 1 := ⟨"MovedRegisters$Plan", F_P, 4, rfl, by decide, fw_P, Or.inl (mT_1 (i := 41) rfl rfl)⟩
theorem fgC_48 : mx_fg mT mCl "MovedRegisters$Clock" 48 1 1 := ⟨"MovedRegisters$Plan", F_P, 4, rfl, by decide, fw_P, Or.inl (mT_1 (i := 42) rfl rfl)⟩
theorem fgV_70 : mx_fg mT mCl "MovedRegisters$Mover" 70 1 1 := ⟨"MovedRegisters$Plan", F_P, 4, rfl, by decide, fw_P, Or.inl (mT_1 (i := 43) rfl rfl)⟩
theorem fgP_15 : mx_fg mT mCl "MovedRegisters$Plan" 15 1 2 := ⟨"MovedRegisters$Plan", F_P, 4, rfl, by decide, fw_P, Or.inl (mT_1 (i := 44) rfl rfl)⟩
theorem fgH_25 : mx_fg mT mCl "MovedRegisters$Paths" 25 1 2 := ⟨"MovedRegisters$Plan", F_P, 4, rfl, by decide, fw_P, Or.inl (mT_1 (i := 45) rfl rfl)⟩
theorem fgP_18 : mx_fg mT mCl "MovedRegisters$Plan" 18 1 3 := ⟨"MovedRegisters$Plan", F_P, 4, rfl, by decide, fw_P, Or.inl (mT_1 (i := 46) rfl rfl)⟩
theorem fgL_26 : mx_fg mT mCl "MovedRegisters$Limits" 26 1 3 := ⟨"MovedRegisters$Plan", F_P, 4, rfl, by decide, fw_P, Or.inl (mT_1 (i := 47) rfl rfl)⟩
theorem fgA_94 : mx_fg mT mCl "MovedRegisters" 94 1 3 := ⟨"MovedRegisters$Plan", F_P, 4, rfl, by decide, fw_P, Or.inl (mT_1 (i := 48) rfl rfl)⟩
theorem fgC_57 : mx_fg mT mCl "MovedRegisters$Clock" 57 1 3 := ⟨"MovedRegisters$Plan", F_P, 4, rfl, by decide, fw_P, Or.inl (mT_1 (i := 49) rfl rfl)⟩
theorem fgV_61 : mx_fg mT mCl "MovedRegisters$Mover" 61 1 3 := ⟨"MovedRegisters$Plan", F_P, 4, rfl, by decide, fw_P, Or.inl (mT_1 (i := 50) rfl rfl)⟩
theorem lkA_18 : mx_lk mT "MovedRegisters" 18 jB_init.1 := Or.inr ⟨"MovedRegisters", (mT_1 (i := 63) rfl rfl)⟩
theorem fgB_9 : mx_fg mT mCl "MovedRegisters$Bank" 9 2 0 := ⟨"MovedRegisters$Bank", F_B, 2, rfl, by decide, fw_B, Or.inl (mT_1 (i := 67) rfl rfl)⟩
theorem fgB_15 : mx_fg mT mCl "MovedRegisters$Bank" 15 2 1 := ⟨"MovedRegisters$Bank", F_B, 2, rfl, by decide, fw_B, Or.inl (mT_1 (i := 68) rfl rfl)⟩
theorem lkA_28 : mx_lk mT "MovedRegisters" 28 jO_init.1 := Or.inr ⟨"MovedRegisters", (mT_1 (i := 77) rfl rfl)⟩
theorem fgO_9 : mx_fg mT mCl "MovedRegisters$Order" 9 3 0 := ⟨"MovedRegisters$Order", F_O, 3, rfl, by decide, fw_O, Or.inl (mT_1 (i := 81) rfl rfl)⟩
theorem fgC_32 : mx_fg mT mCl "MovedRegisters$Clock" 32 3 0 := ⟨"MovedRegisters$Order", F_O, 3, rfl, by decide, fw_O, Or.inl (mT_1 (i := 82) rfl rfl)⟩
theorem fgO_15 : mx_fg mT mCl "MovedRegisters$Order" 15 3 1 := ⟨"MovedRegisters$Order", F_O, 3, rfl, by decide, fw_O, Or.inl (mT_1 (i := 83) rfl rfl)⟩
theorem fgO_19 : mx_fg mT mCl "MovedRegisters$Order" 19 3 2 := ⟨"MovedRegisters$Order", F_O, 3, rfl, by decide, fw_O, Or.inl (mT_1 (i := 84) rfl rfl)⟩
theorem fpO_19 : mx_fp mT mCl "MovedRegisters$Order" 19 3 2 (.int) := ⟨"MovedRegisters$Order", F_O, 3, t_O, rfl, by decide, fw_O, Or.inl (mT_1 (i := 84) rfl rfl), t_O_ok, n_O, rfl, by decide +kernel⟩
theorem lkA_35 : mx_lk mT "MovedRegisters" 35 jH_init.1 := Or.inr ⟨"MovedRegisters", (mT_1 (i := 95) rfl rfl)⟩
theorem fgH_11 : mx_fg mT mCl "MovedRegisters$Paths" 11 4 0 := ⟨"MovedRegisters$Paths", F_H, 2, rfl, by decide, fw_H, Or.inl (mT_1 (i := 101) rfl rfl)⟩
theorem fgL_64 : mx_fg mT mCl "MovedRegisters$Limits" 64 4 0 := ⟨"MovedRegisters$Paths", F_H, 2, rfl, by decide, fw_H, Or.inl (mT_1 (i := 102) rfl rfl)⟩
theorem fgA_139 : mx_fg mT mCl "MovedRegisters" 139 4 0 := ⟨"MovedRegisters$Paths", F_H, 2, rfl, by decide, fw_H, Or.inl (mT_1 (i := 103) rfl rfl)⟩
theorem fgH_16 : mx_fg mT mCl "MovedRegisters$Paths" 16 4 1 := ⟨"MovedRegisters$Paths", F_H, 2, rfl, by decide, fw_H, Or.inl (mT_1 (i := 104) rfl rfl)⟩
theorem fgL_59 : mx_fg mT mCl "MovedRegisters$Limits" 59 4 1 := ⟨"MovedRegisters$Paths", F_H, 2, rfl, by decide, fw_H, Or.inl (mT_1 (i := 105) rfl rfl)⟩
theorem fgA_143 : mx_fg mT mCl "MovedRegisters" 143 4 1 := ⟨"MovedRegisters$Paths", F_H, 2, rfl, by decide, fw_H, Or.inl (mT_1 (i := 106) rfl rfl)⟩
theorem lkA_42 : mx_lk mT "MovedRegisters" 42 jL_init.1 := Or.inr ⟨"MovedRegisters", (mT_1 (i := 114) rfl rfl)⟩
theorem fgL_9 : mx_fg mT mCl "MovedRegisters$Limits" 9 5 0 := ⟨"MovedRegisters$Limits", F_L, 2, rfl, by decide, fw_L, Or.inl (mT_1 (i := 119) rfl rfl)⟩
theorem fgA_196 : mx_fg mT mCl "MovedRegisters" 196 5 0 := ⟨"MovedRegisters$Limits", F_L, 2, rfl, by decide, fw_L, Or.inl (mT_1 (i := 120) rfl rfl)⟩
theorem fgL_17 : mx_fg mT mCl "MovedRegisters$Limits" 17 5 1 := ⟨"MovedRegisters$Limits", F_L, 2, rfl, by decide, fw_L, Or.inl (mT_1 (i := 121) rfl rfl)⟩
theorem lkA_49 : mx_lk mT "MovedRegisters" 49 jV_init.1 := Or.inr ⟨"MovedRegisters", (mT_1 (i := 129) rfl rfl)⟩
theorem fgV_9 : mx_fg mT mCl "MovedRegisters$Mover" 9 6 0 := ⟨"MovedRegisters$Mover", F_V, 1, rfl, by decide, fw_V, Or.inl (mT_1 (i := 133) rfl rfl)⟩
theorem lkA_56 : mx_lk mT "MovedRegisters" 56 jC_init.1 := Or.inr ⟨"MovedRegisters", (mT_1 (i := 139) rfl rfl)⟩
theorem lkC_11 : mx_lk mT "MovedRegisters$Clock" 11 jB_init.1 := Or.inr ⟨"MovedRegisters", (mT_1 (i := 144) rfl rfl)⟩
theorem fgC_12 : mx_fg mT mCl "MovedRegisters$Clock" 12 7 0 := ⟨"MovedRegisters$Clock", F_C, 2, rfl, by decide, fw_C, Or.inl (mT_1 (i := 145) rfl rfl)⟩
theorem fgC_18 : mx_fg mT mCl "MovedRegisters$Clock" 18 7 1 := ⟨"MovedRegisters$Clock", F_C, 2, rfl, by decide, fw_C, Or.inl (mT_1 (i := 146) rfl rfl)⟩
theorem fgA_12 : mx_fg mT mCl "MovedRegisters" 12 0 0 := ⟨"MovedRegisters", F_A, 9, rfl, by decide, fw_A, Or.inl (mT_1 (i := 152) rfl rfl)⟩
theorem fgA_19 : mx_fg mT mCl "MovedRegisters" 19 0 1 := ⟨"MovedRegisters", F_A, 9, rfl, by decide, fw_A, Or.inl (mT_1 (i := 153) rfl rfl)⟩
theorem fgA_23 : mx_fg mT mCl "MovedRegisters" 23 0 2 := ⟨"MovedRegisters", F_A, 9, rfl, by decide, fw_A, Or.inl (mT_1 (i := 154) rfl rfl)⟩
theorem fgA_29 : mx_fg mT mCl "MovedRegisters" 29 0 3 := ⟨"MovedRegisters", F_A, 9, rfl, by decide, fw_A, Or.inl (mT_1 (i := 155) rfl rfl)⟩
theorem fgA_36 : mx_fg mT mCl "MovedRegisters" 36 0 4 := ⟨"MovedRegisters", F_A, 9, rfl, by decide, fw_A, Or.inl (mT_1 (i := 156) rfl rfl)⟩
theorem fgA_43 : mx_fg mT mCl "MovedRegisters" 43 0 5 := ⟨"MovedRegisters", F_A, 9, rfl, by decide, fw_A, Or.inl (mT_1 (i := 157) rfl rfl)⟩
theorem fgA_50 : mx_fg mT mCl "MovedRegisters" 50 0 6 := ⟨"MovedRegisters", F_A, 9, rfl, by decide, fw_A, Or.inl (mT_1 (i := 158) rfl rfl)⟩
theorem fgA_57 : mx_fg mT mCl "MovedRegisters" 57 0 7 := ⟨"MovedRegisters", F_A, 9, rfl, by decide, fw_A, Or.inl (mT_1 (i := 159) rfl rfl)⟩
theorem fgA_61 : mx_fg mT mCl "MovedRegisters" 61 0 8 := ⟨"MovedRegisters", F_A, 9, rfl, by decide, fw_A, Or.inl (mT_1 (i := 160) rfl rfl)⟩
theorem lkA_121 : mx_lk mT "MovedRegisters" 121 jA_isSound.1 := Or.inl (mT_1 (i := 188) rfl rfl)
theorem lkA_181 : mx_lk mT "MovedRegisters" 181 jP_isComplete.1 := Or.inl (mT_1 (i := 192) rfl rfl)
theorem lkP_45 : mx_lk mT "MovedRegisters$Plan" 45 jP_hasAllPins.1 := Or.inl (mT_1 (i := 196) rfl rfl)
theorem lkP_36 : mx_lk mT "MovedRegisters$Plan" 36 jP_firstPin.1 := Or.inl (mT_1 (i := 200) rfl rfl)
theorem lkP_51 : mx_lk mT "MovedRegisters$Plan" 51 jP_endOfPins.1 := Or.inl (mT_1 (i := 204) rfl rfl)
theorem lkP_32 : mx_lk mT "MovedRegisters$Plan" 32 jP_pinsOf.1 := Or.inl (mT_1 (i := 208) rfl rfl)
theorem lkP_48 : mx_lk mT "MovedRegisters$Plan" 48 jP_isSource.1 := Or.inl (mT_1 (i := 212) rfl rfl)
theorem lkA_184 : mx_lk mT "MovedRegisters" 184 jO_arrange.1 := Or.inl (mT_1 (i := 216) rfl rfl)
theorem lkO_28 : mx_lk mT "MovedRegisters$Order" 28 jO_placeReady.1 := Or.inl (mT_1 (i := 220) rfl rfl)
theorem lkO_32 : mx_lk mT "MovedRegisters$Order" 32 jO_isReady.1 := Or.inl (mT_1 (i := 224) rfl rfl)
theorem lkO_36 : mx_lk mT "MovedRegisters$Order" 36 jP_firstPin.1 := Or.inl (mT_1 (i := 228) rfl rfl)
theorem lkO_40 : mx_lk mT "MovedRegisters$Order" 40 jP_endOfPins.1 := Or.inl (mT_1 (i := 229) rfl rfl)
theorem lkO_43 : mx_lk mT "MovedRegisters$Order" 43 jP_gateBehind.1 := Or.inl (mT_1 (i := 230) rfl rfl)
theorem lkO_46 : mx_lk mT "MovedRegisters$Order" 46 jB_length.1 := Or.inl (mT_1 (i := 237) rfl rfl)
theorem lkA_79 : mx_lk mT "MovedRegisters" 79 jC_begin.1 := Or.inl (mT_2 (i := 5) rfl rfl)
theorem lkC_22 : mx_lk mT "MovedRegisters$Clock" 22 jB_copy.1 := Or.inl (mT_2 (i := 9) rfl rfl)
theorem lkA_75 : mx_lk mT "MovedRegisters" 75 jP_addGate.1 := Or.inl (mT_2 (i := 104) rfl rfl)
theorem lkA_83 : mx_lk mT "MovedRegisters" 83 jP_hasEnd.1 := Or.inl (mT_2 (i := 116) rfl rfl)
theorem lkP_25 : mx_lk mT "MovedRegisters$Plan" 25 jP_hasGate.1 := Or.inl (mT_2 (i := 120) rfl rfl)
theorem lkP_29 : mx_lk mT "MovedRegisters$Plan" 29 jP_isPort.1 := Or.inl (mT_2 (i := 124) rfl rfl)
theorem lkA_90 : mx_lk mT "MovedRegisters" 90 jP_placeOf.1 := Or.inl (mT_2 (i := 142) rfl rfl)
theorem lkA_97 : mx_lk mT "MovedRegisters" 97 jB_fill.1 := Or.inl (mT_2 (i := 146) rfl rfl)
theorem lkB_23 : mx_lk mT "MovedRegisters$Bank" 23 jB_putAtSource.1 := Or.inl (mT_2 (i := 150) rfl rfl)
theorem lkB_31 : mx_lk mT "MovedRegisters$Bank" 31 jB_write.1 := Or.inl (mT_2 (i := 154) rfl rfl)
theorem lkA_100 : mx_lk mT "MovedRegisters" 100 jA_registerWire.1 := Or.inl (mT_2 (i := 167) rfl rfl)
theorem lkA_114 : mx_lk mT "MovedRegisters" 114 jA_wireTo.1 := Or.inl (mT_2 (i := 171) rfl rfl)
theorem lkA_117 : mx_lk mT "MovedRegisters" 117 jB_length.1 := Or.inl (mT_2 (i := 175) rfl rfl)
theorem lkA_104 : mx_lk mT "MovedRegisters" 104 jA_isValue.1 := Or.inl (mT_2 (i := 176) rfl rfl)
theorem lkA_107 : mx_lk mT "MovedRegisters" 107 jB_write.1 := Or.inl (mT_2 (i := 179) rfl rfl)
theorem lkA_111 : mx_lk mT "MovedRegisters" 111 jB_read.1 := Or.inl (mT_2 (i := 187) rfl rfl)
theorem lkA_125 : mx_lk mT "MovedRegisters" 125 jA_needSound.1 := Or.inl (mT_2 (i := 206) rfl rfl)
theorem lkA_128 : mx_lk mT "MovedRegisters" 128 jH_measure.1 := Or.inl (mT_2 (i := 225) rfl rfl)
theorem lkH_29 : mx_lk mT "MovedRegisters$Paths" 29 jH_offer.1 := Or.inl (mT_2 (i := 229) rfl rfl)
theorem lkH_33 : mx_lk mT "MovedRegisters$Paths" 33 jH_offerWire.1 := Or.inl (mT_2 (i := 233) rfl rfl)
theorem lkH_47 : mx_lk mT "MovedRegisters$Paths" 47 jP_gateBehind.1 := Or.inl (mT_2 (i := 237) rfl rfl)
theorem lkH_51 : mx_lk mT "MovedRegisters$Paths" 51 jP_gateBefore.1 := Or.inl (mT_2 (i := 238) rfl rfl)
theorem lkH_54 : mx_lk mT "MovedRegisters$Paths" 54 jB_length.1 := Or.inl (mT_3 (i := 2) rfl rfl)
theorem lkH_37 : mx_lk mT "MovedRegisters$Paths" 37 jH_offerOver.1 := Or.inl (mT_3 (i := 3) rfl rfl)
theorem lkA_132 : mx_lk mT "MovedRegisters" 132 jH_longestUnregistered.1 := Or.inl (mT_3 (i := 7) rfl rfl)
theorem lkA_135 : mx_lk mT "MovedRegisters" 135 jA_needGate.1 := Or.inl (mT_3 (i := 19) rfl rfl)
theorem lkA_175 : mx_lk mT "MovedRegisters" 175 jP_hasGate.1 := Or.inl (mT_3 (i := 23) rfl rfl)
theorem lkA_146 : mx_lk mT "MovedRegisters" 146 jL_set.1 := Or.inl (mT_3 (i := 38) rfl rfl)
theorem lkL_29 : mx_lk mT "MovedRegisters$Limits" 29 jP_gateBehind.1 := Or.inl (mT_3 (i := 42) rfl rfl)
theorem lkL_33 : mx_lk mT "MovedRegisters$Limits" 33 jP_gateBefore.1 := Or.inl (mT_3 (i := 43) rfl rfl)
theorem lkL_36 : mx_lk mT "MovedRegisters$Limits" 36 jB_length.1 := Or.inl (mT_3 (i := 44) rfl rfl)
theorem lkL_41 : mx_lk mT "MovedRegisters$Limits" 41 jL_limitWire.1 := Or.inl (mT_3 (i := 45) rfl rfl)
theorem lkL_56 : mx_lk mT "MovedRegisters$Limits" 56 jL_limit.1 := Or.inl (mT_3 (i := 49) rfl rfl)
theorem lkL_45 : mx_lk mT "MovedRegisters$Limits" 45 jL_limitPaths.1 := Or.inl (mT_3 (i := 56) rfl rfl)
theorem lkA_150 : mx_lk mT "MovedRegisters" 150 jL_solve.1 := Or.inl (mT_3 (i := 60) rfl rfl)
theorem lkL_49 : mx_lk mT "MovedRegisters$Limits" 49 jL_lowerAll.1 := Or.inl (mT_3 (i := 64) rfl rfl)
theorem lkL_53 : mx_lk mT "MovedRegisters$Limits" 53 jL_areAllowed.1 := Or.inl (mT_3 (i := 68) rfl rfl)
theorem lkA_154 : mx_lk mT "MovedRegisters" 154 jA_mostFrom.1 := Or.inl (mT_3 (i := 79) rfl rfl)
theorem lkA_157 : mx_lk mT "MovedRegisters" 157 jA_moveUpTo.1 := Or.inl (mT_3 (i := 91) rfl rfl)
theorem lkA_193 : mx_lk mT "MovedRegisters" 193 jB_copy.1 := Or.inl (mT_3 (i := 95) rfl rfl)
theorem lkA_199 : mx_lk mT "MovedRegisters" 199 jV_follow.1 := Or.inl (mT_3 (i := 96) rfl rfl)
theorem lkV_27 : mx_lk mT "MovedRegisters$Mover" 27 jV_isDone.1 := Or.inl (mT_3 (i := 101) rfl rfl)
theorem lkV_31 : mx_lk mT "MovedRegisters$Mover" 31 jV_moveEach.1 := Or.inl (mT_3 (i := 105) rfl rfl)
theorem lkV_35 : mx_lk mT "MovedRegisters$Mover" 35 jV_canForward.1 := Or.inl (mT_3 (i := 109) rfl rfl)
theorem lkV_49 : mx_lk mT "MovedRegisters$Mover" 49 jP_firstPin.1 := Or.inl (mT_3 (i := 113) rfl rfl)
theorem lkV_53 : mx_lk mT "MovedRegisters$Mover" 53 jP_endOfPins.1 := Or.inl (mT_3 (i := 114) rfl rfl)
theorem lkV_56 : mx_lk mT "MovedRegisters$Mover" 56 jB_length.1 := Or.inl (mT_3 (i := 115) rfl rfl)
theorem lkV_39 : mx_lk mT "MovedRegisters$Mover" 39 jV_forward.1 := Or.inl (mT_3 (i := 116) rfl rfl)
theorem lkV_64 : mx_lk mT "MovedRegisters$Mover" 64 jB_takeAtSink.1 := Or.inl (mT_3 (i := 120) rfl rfl)
theorem lkB_27 : mx_lk mT "MovedRegisters$Bank" 27 jB_read.1 := Or.inl (mT_3 (i := 124) rfl rfl)
theorem lkV_67 : mx_lk mT "MovedRegisters$Mover" 67 jP_pinsOf.1 := Or.inl (mT_3 (i := 125) rfl rfl)
theorem lkV_73 : mx_lk mT "MovedRegisters$Mover" 73 jG_made.1 := Or.inl (mT_3 (i := 126) rfl rfl)
theorem lkG_9 : mx_lk mT "MovedRegisters$Logic" 9 jG_opposite.1 := Or.inl (mT_3 (i := 129) rfl rfl)
theorem lkG_15 : mx_lk mT "MovedRegisters$Logic" 15 jG_ruled.1 := Or.inl (mT_3 (i := 132) rfl rfl)
theorem lkV_79 : mx_lk mT "MovedRegisters$Mover" 79 jB_putAtSource.1 := Or.inl (mT_3 (i := 135) rfl rfl)
theorem lkV_43 : mx_lk mT "MovedRegisters$Mover" 43 jV_canBackward.1 := Or.inl (mT_3 (i := 136) rfl rfl)
theorem lkV_46 : mx_lk mT "MovedRegisters$Mover" 46 jV_backward.1 := Or.inl (mT_3 (i := 140) rfl rfl)
theorem lkV_83 : mx_lk mT "MovedRegisters$Mover" 83 jB_takeAtSource.1 := Or.inl (mT_3 (i := 144) rfl rfl)
theorem lkV_86 : mx_lk mT "MovedRegisters$Mover" 86 jV_joined.1 := Or.inl (mT_3 (i := 148) rfl rfl)
theorem lkV_90 : mx_lk mT "MovedRegisters$Mover" 90 jG_needed.1 := Or.inl (mT_3 (i := 151) rfl rfl)
theorem lkV_93 : mx_lk mT "MovedRegisters$Mover" 93 jB_putAtSink.1 := Or.inl (mT_3 (i := 154) rfl rfl)
theorem lkA_160 : mx_lk mT "MovedRegisters" 160 jC_setInputs.1 := Or.inl (mT_3 (i := 173) rfl rfl)
theorem lkA_163 : mx_lk mT "MovedRegisters" 163 jC_settle.1 := Or.inl (mT_3 (i := 177) rfl rfl)
theorem lkC_37 : mx_lk mT "MovedRegisters$Clock" 37 jP_firstPin.1 := Or.inl (mT_3 (i := 181) rfl rfl)
theorem lkC_41 : mx_lk mT "MovedRegisters$Clock" 41 jC_valueOf.1 := Or.inl (mT_3 (i := 182) rfl rfl)
theorem lkC_60 : mx_lk mT "MovedRegisters$Clock" 60 jB_length.1 := Or.inl (mT_3 (i := 186) rfl rfl)
theorem lkC_70 : mx_lk mT "MovedRegisters$Clock" 70 jB_read.1 := Or.inl (mT_3 (i := 187) rfl rfl)
theorem lkC_45 : mx_lk mT "MovedRegisters$Clock" 45 jP_pinsOf.1 := Or.inl (mT_3 (i := 188) rfl rfl)
theorem lkC_51 : mx_lk mT "MovedRegisters$Clock" 51 jG_made.1 := Or.inl (mT_3 (i := 189) rfl rfl)
theorem lkA_167 : mx_lk mT "MovedRegisters" 167 jC_outputs.1 := Or.inl (mT_3 (i := 190) rfl rfl)
theorem lkA_171 : mx_lk mT "MovedRegisters" 171 jC_shift.1 := Or.inl (mT_3 (i := 194) rfl rfl)
theorem lkC_63 : mx_lk mT "MovedRegisters$Clock" 63 jB_takeAtSink.1 := Or.inl (mT_3 (i := 198) rfl rfl)
theorem lkC_66 : mx_lk mT "MovedRegisters$Clock" 66 jB_putAtSource.1 := Or.inl (mT_3 (i := 199) rfl rfl)
theorem fgM_49 : mx_fg mT mCl "MovedRegistersModel" 49 8 0 := ⟨"MovedRegistersModel", F_M, 15, rfl, by decide, fw_M, Or.inl (mT_3 (i := 206) rfl rfl)⟩
theorem fpM_49 : mx_fp mT mCl "MovedRegistersModel" 49 8 0 (.int) := ⟨"MovedRegistersModel", F_M, 15, t_M, rfl, by decide, fw_M, Or.inl (mT_3 (i := 206) rfl rfl), t_M_ok, n_M, rfl, by decide +kernel⟩
theorem fgM_53 : mx_fg mT mCl "MovedRegistersModel" 53 8 1 := ⟨"MovedRegistersModel", F_M, 15, rfl, by decide, fw_M, Or.inl (mT_3 (i := 207) rfl rfl)⟩
theorem fpM_53 : mx_fp mT mCl "MovedRegistersModel" 53 8 1 (.int) := ⟨"MovedRegistersModel", F_M, 15, t_M, rfl, by decide, fw_M, Or.inl (mT_3 (i := 207) rfl rfl), t_M_ok, n_M, rfl, by decide +kernel⟩
theorem fgM_7 : mx_fg mT mCl "MovedRegistersModel" 7 8 2 := ⟨"MovedRegistersModel", F_M, 15, rfl, by decide, fw_M, Or.inl (mT_3 (i := 208) rfl rfl)⟩
theorem fgM_13 : mx_fg mT mCl "MovedRegistersModel" 13 8 3 := ⟨"MovedRegistersModel", F_M, 15, rfl, by decide, fw_M, Or.inl (mT_3 (i := 209) rfl rfl)⟩
theorem fgM_16 : mx_fg mT mCl "MovedRegistersModel" 16 8 4 := ⟨"MovedRegistersModel", F_M, 15, rfl, by decide, fw_M, Or.inl (mT_3 (i := 210) rfl rfl)⟩
theorem fgM_19 : mx_fg mT mCl "MovedRegistersModel" 19 8 5 := ⟨"MovedRegistersModel", F_M, 15, rfl, by decide, fw_M, Or.inl (mT_3 (i := 211) rfl rfl)⟩
theorem fgM_22 : mx_fg mT mCl "MovedRegistersModel" 22 8 6 := ⟨"MovedRegistersModel", F_M, 15, rfl, by decide, fw_M, Or.inl (mT_3 (i := 212) rfl rfl)⟩
theorem fgM_25 : mx_fg mT mCl "MovedRegistersModel" 25 8 7 := ⟨"MovedRegistersModel", F_M, 15, rfl, by decide, fw_M, Or.inl (mT_3 (i := 213) rfl rfl)⟩
theorem fgM_28 : mx_fg mT mCl "MovedRegistersModel" 28 8 8 := ⟨"MovedRegistersModel", F_M, 15, rfl, by decide, fw_M, Or.inl (mT_3 (i := 214) rfl rfl)⟩
theorem fgM_31 : mx_fg mT mCl "MovedRegistersModel" 31 8 9 := ⟨"MovedRegistersModel", F_M, 15, rfl, by decide, fw_M, Or.inl (mT_3 (i := 215) rfl rfl)⟩
theorem fgM_34 : mx_fg mT mCl "MovedRegistersModel" 34 8 10 := ⟨"MovedRegistersModel", F_M, 15, rfl, by decide, fw_M, Or.inl (mT_3 (i := 216) rfl rfl)⟩
theorem fgM_37 : mx_fg mT mCl "MovedRegistersModel" 37 8 11 := ⟨"MovedRegistersModel", F_M, 15, rfl, by decide, fw_M, Or.inl (mT_3 (i := 217) rfl rfl)⟩
theorem fgM_40 : mx_fg mT mCl "MovedRegistersModel" 40 8 12 := ⟨"MovedRegistersModel", F_M, 15, rfl, by decide, fw_M, Or.inl (mT_3 (i := 218) rfl rfl)⟩
theorem fgM_43 : mx_fg mT mCl "MovedRegistersModel" 43 8 13 := ⟨"MovedRegistersModel", F_M, 15, rfl, by decide, fw_M, Or.inl (mT_3 (i := 219) rfl rfl)⟩
theorem fgM_46 : mx_fg mT mCl "MovedRegistersModel" 46 8 14 := ⟨"MovedRegistersModel", F_M, 15, rfl, by decide, fw_M, Or.inl (mT_3 (i := 220) rfl rfl)⟩
theorem lkM_67 : mx_lk mT "MovedRegistersModel" 67 jM_begin.1 := Or.inl (mT_4 (i := 20) rfl rfl)
theorem lkM_60 : mx_lk mT "MovedRegistersModel" 60 jM_isGate.1 := Or.inl (mT_4 (i := 28) rfl rfl)
theorem lkM_56 : mx_lk mT "MovedRegistersModel" 56 jM_isOuter.1 := Or.inl (mT_4 (i := 32) rfl rfl)
theorem lkM_70 : mx_lk mT "MovedRegistersModel" 70 jM_place.1 := Or.inl (mT_4 (i := 35) rfl rfl)
theorem lkM_63 : mx_lk mT "MovedRegistersModel" 63 jM_pins.1 := Or.inl (mT_4 (i := 39) rfl rfl)
theorem lkM_77 : mx_lk mT "MovedRegistersModel" 77 jM_isRegister.1 := Or.inl (mT_4 (i := 47) rfl rfl)
theorem lkM_74 : mx_lk mT "MovedRegistersModel" 74 jM_isWire.1 := Or.inl (mT_4 (i := 51) rfl rfl)
theorem lkM_92 : mx_lk mT "MovedRegistersModel" 92 jM_isSound.1 := Or.inl (mT_4 (i := 71) rfl rfl)
theorem lkM_88 : mx_lk mT "MovedRegistersModel" 88 jM_looped.1 := Or.inl (mT_4 (i := 75) rfl rfl)
theorem lkM_95 : mx_lk mT "MovedRegistersModel" 95 jM_measure.1 := Or.inl (mT_4 (i := 83) rfl rfl)
theorem lkM_82 : mx_lk mT "MovedRegistersModel" 82 jM_sinkOf.1 := Or.inl (mT_4 (i := 88) rfl rfl)
theorem lkM_85 : mx_lk mT "MovedRegistersModel" 85 jM_weightOf.1 := Or.inl (mT_4 (i := 91) rfl rfl)
theorem lkM_98 : mx_lk mT "MovedRegistersModel" 98 jM_delayOf.1 := Or.inl (mT_4 (i := 95) rfl rfl)
theorem lkM_110 : mx_lk mT "MovedRegistersModel" 110 jM_find.1 := Or.inl (mT_4 (i := 111) rfl rfl)
theorem lkM_107 : mx_lk mT "MovedRegistersModel" 107 jM_lowerAll.1 := Or.inl (mT_4 (i := 115) rfl rfl)
theorem lkM_101 : mx_lk mT "MovedRegistersModel" 101 jM_labelOf.1 := Or.inl (mT_4 (i := 119) rfl rfl)
theorem lkM_104 : mx_lk mT "MovedRegistersModel" 104 jM_lower.1 := Or.inl (mT_4 (i := 123) rfl rfl)
theorem lkM_137 : mx_lk mT "MovedRegistersModel" 137 jM_follow.1 := Or.inl (mT_4 (i := 135) rfl rfl)
theorem lkM_124 : mx_lk mT "MovedRegistersModel" 124 jM_canForward.1 := Or.inl (mT_4 (i := 139) rfl rfl)
theorem lkM_127 : mx_lk mT "MovedRegistersModel" 127 jM_forward.1 := Or.inl (mT_4 (i := 143) rfl rfl)
theorem lkM_113 : mx_lk mT "MovedRegistersModel" 113 jM_pull.1 := Or.inl (mT_4 (i := 147) rfl rfl)
theorem lkM_116 : mx_lk mT "MovedRegistersModel" 116 jM_made.1 := Or.inl (mT_4 (i := 151) rfl rfl)
theorem lkM_131 : mx_lk mT "MovedRegistersModel" 131 jM_canBackward.1 := Or.inl (mT_4 (i := 154) rfl rfl)
theorem lkM_134 : mx_lk mT "MovedRegistersModel" 134 jM_backward.1 := Or.inl (mT_4 (i := 158) rfl rfl)
theorem lkM_120 : mx_lk mT "MovedRegistersModel" 120 jM_push.1 := Or.inl (mT_4 (i := 162) rfl rfl)
theorem lkM_140 : mx_lk mT "MovedRegistersModel" 140 jM_input.1 := Or.inl (mT_4 (i := 174) rfl rfl)
