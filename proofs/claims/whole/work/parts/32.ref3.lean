/-! The reference: hold, held, registers, gates, label, restart, weightOf, delayOf, labelOf, lower, measure. -/
theorem i32_nat {r : Int32} {m : Int32} {n : Nat} (h0 : ¬ r < 0) (h1 : ¬ m ≤ r) (h2 : m ≤ nI n) (hn : n < 1000) : ∃ k, k < n ∧ r = nI k := by
  refine vp_in_of (n := n) ?_ (by omega)
  rw [Int32.lt_iff_toInt_lt] at h0
  rw [Int32.le_iff_toInt_le] at h1 h2
  rw [nI_toInt (by omega)] at h2
  have h0 : ¬ r.toInt < 0 := h0
  unfold vp_in
  rw [Int32.lt_iff_toInt_lt]
  have e : r.toNatClampNeg = r.toInt.toNat := rfl
  intro h
  rcases h with h | h
  · exact h0 h
  · rw [e] at h; omega
theorem isR_nat {c : Nat} {I : Nat → Nat → Int32} {x y r : Int32} (hc : c ≤ 12) (hmn : ∀ w, w < 27 → I 4 w ≤ 40) (h : ¬ qM_isR (I 3) (I 4) (qM_place (nI c) (I 1) x y) r = 0) : ∃ w k, w < 27 ∧ k < 40 ∧ qM_place (nI c) (I 1) x y = nI w ∧ r = nI k := by
  unfold qM_isR at h
  by_cases h1 : qM_isW (I 3) (qM_place (nI c) (I 1) x y) = 0
  · rw [if_pos h1] at h; exact absurd rfl h
  · rw [if_neg h1] at h
    by_cases h2 : r < 0
    · rw [if_pos h2] at h; exact absurd rfl h
    · rw [if_neg h2] at h
      by_cases h3 : I 4 (qM_place (nI c) (I 1) x y).toNatClampNeg ≤ r
      · rw [if_pos h3] at h; exact absurd rfl h
      · have h4 : ¬ qM_place (nI c) (I 1) x y < 0 := fun e => h1 (by unfold qM_isW; rw [if_pos e])
        obtain ⟨w, hw, ew⟩ := (place_neg hc).2 h4
        rw [ew, nI_clamp (by omega)] at h3
        obtain ⟨k, hk, ek⟩ := i32_nat (n := 40) h2 h3 (hmn w hw) (by decide)
        exact ⟨w, k, hw, hk, ew, ek⟩
def rHold (c : Nat) (I : Nat → Nat → Int32) (x y r v : Int32) : Int32 × (Nat → Nat → Int32) := if qM_isR (I 3) (I 4) (qM_place (nI c) (I 1) x y) r = 0 then (1, I) else if v < 0 then (2, I) else if ¬ v ≤ 2 then (2, I) else (0, rbeg (upI I 5 (upd (I 5) (40 * (qM_place (nI c) (I 1) x y).toNatClampNeg + r.toNatClampNeg) v)))
def rHeld (c : Nat) (I : Nat → Nat → Int32) (x y r : Int32) : Int32 × Int32 := if qM_isR (I 3) (I 4) (qM_place (nI c) (I 1) x y) r = 0 then (0, 1) else (I 5 (40 * (qM_place (nI c) (I 1) x y).toNatClampNeg + r.toNatClampNeg), 0)
def rRegs (c : Nat) (I : Nat → Nat → Int32) (x y : Int32) : Int32 × Int32 := if qM_isW (I 3) (qM_place (nI c) (I 1) x y) = 0 then (0, 1) else (I 4 (qM_place (nI c) (I 1) x y).toNatClampNeg, 0)
def rLab (c : Nat) (I : Nat → Nat → Int32) (x : Int32) : Int32 × Int32 := if qP_hasGate (nI c) x = 0 then (0, 1) else (I 9 x.toNatClampNeg, 0)
theorem cM_hold {c : Nat} {thr : Int32} {I : Nat → Nat → Int32} {Q : mx_O → List va_E → Prop} (hc : c ≤ 12) (hmn : ∀ w, w < 27 → I 4 w ≤ 40) {x y r v : Int32} (hQ : Q (.inl none) (rp (rHold c I x y r v).1 (nI c) (rHold c I x y r v).2)) : mx_W mx_K mT mCl jM_hold (mR 2 43) 0 [.ref 0, .int x, .int y, .int r, .int v, .retAddr 0] [] (rp thr (nI c) I) Q := by
  unfold rHold at hQ
  refine mx_aload_n dM_hold_0 rfl ?_
  refine mx_iload_n dM_hold_1 rfl ?_
  refine mx_iload_n dM_hold_2 rfl ?_
  refine mx_V1 (R' := (mR 1 21)) [_, _] _ dM_hold_3 rfl mT_G jM_place_ok jM_place_v lkM_70 ⟨rfl, rfl, Nat.le_of_ble_eq_true rfl, Nat.le_of_ble_eq_true rfl⟩ rfl rfl (Nat.le_of_ble_eq_true rfl) (Nat.le_of_ble_eq_true rfl) rfl rfl rfl (fun Qc qc => cM_place (fun hg => by obtain ⟨u, _, _, rfl⟩ := hasG hc hg; exact vp_in_nI (by omega) (by decide)) qc) ?_
  refine mx_istore dM_hold_6 (Nat.le_of_ble_eq_true rfl) rfl ?_
  refine mx_aload_n dM_hold_8 rfl ?_
  refine mx_aload_n dM_hold_9 rfl ?_
  refine mx_iload dM_hold_10 rfl ?_
  refine mx_iload_n dM_hold_12 rfl ?_
  refine mx_V1 (R' := (mR 1 21)) [_, _] _ dM_hold_13 rfl mT_G jM_isRegister_ok jM_isRegister_v lkM_77 ⟨rfl, rfl, Nat.le_of_ble_eq_true rfl, Nat.le_of_ble_eq_true rfl⟩ rfl rfl (Nat.le_of_ble_eq_true rfl) (Nat.le_of_ble_eq_true rfl) rfl rfl rfl (fun Qc qc => cM_isRegister (place_vp hc) qc) ?_
  refine mx_if_ne 23 dM_hold_16 rfl (fun h16 => ?_) (fun h16 => ?_)
  · refine mx_iload dM_hold_23 rfl ?_
    refine mx_if_lt 34 dM_hold_25 rfl (fun h25 => ?_) (fun h25 => ?_)
    · refine mx_iconst (2) dM_hold_34 (by decide) ?_
      refine mx_goto 39 dM_hold_35 rfl ?_
      refine mx_put 8 0 (.int) dM_hold_39 fpM_49 rfl (Nat.le_of_ble_eq_true rfl) rfl rfl ?_
      refine mx_aload_n dM_hold_42 rfl ?_
      refine mx_get 8 0 dM_hold_43 fgM_49 rfl rfl ?_
      refine mx_if_ne 67 dM_hold_46 rfl (fun h46 => ?_) (fun h46 => ?_)
      rotate_left
      · exact absurd h46 (by decide)
      refine mx_vret dM_hold_67 rfl ?_
      first | (rw [if_pos h16] at hQ; exact hQ) | (rw [if_neg h16, if_pos h25] at hQ; exact hQ) | (rw [if_neg h16, if_neg h25, if_pos h31] at hQ; exact hQ)
    · refine mx_iload dM_hold_28 rfl ?_
      refine mx_iconst (2) dM_hold_30 (by decide) ?_
      refine mx_icmp_le 38 dM_hold_31 rfl (fun h31 => ?_) (fun h31 => ?_)
      · refine mx_iconst (0) dM_hold_38 (by decide) ?_
        refine mx_put 8 0 (.int) dM_hold_39 fpM_49 rfl (Nat.le_of_ble_eq_true rfl) rfl rfl ?_
        refine mx_aload_n dM_hold_42 rfl ?_
        refine mx_get 8 0 dM_hold_43 fgM_49 rfl rfl ?_
        refine mx_if_ne 67 dM_hold_46 rfl (fun h46 => ?_) (fun h46 => ?_)
        · exact absurd rfl h46
        obtain ⟨w, k, hw, hk, ew, ek⟩ := isR_nat hc hmn h16
        rw [if_neg h16, if_neg h25, if_neg (fun q => q h31), ew, ek, nI_clamp (by omega), nI_clamp (by omega)] at hQ
        rw [ew, ek]
        refine mx_aload_n dM_hold_49 rfl ?_
        refine mx_get 8 6 dM_hold_50 fgM_22 rfl rfl ?_
        refine mx_bipush (40) dM_hold_53 (by decide) ?_
        refine mx_iload dM_hold_55 rfl ?_
        refine mx_imul dM_hold_57 ?_
        refine mx_iload_n dM_hold_58 rfl ?_
        refine mx_iadd dM_hold_59 ?_
        rw [show (40 : Int32) = nI 40 from rfl, pk_mul, nI_add]
        refine mx_iload dM_hold_60 rfl ?_
        refine mx_iast dM_hold_62 rfl (vp_in_nI (by omega) (by decide)) ?_
        rw [nI_clamp (by omega)]
        refine mx_eqs rfl rfl rfl (rp_5 _) ?_
        refine mx_aload_n dM_hold_63 rfl ?_
        refine mx_V1 (R' := (mR 0 0)) [] _ dM_hold_64 rfl mT_G jM_begin_ok jM_begin_v lkM_67 ⟨rfl, rfl, Nat.le_of_ble_eq_true rfl, Nat.le_of_ble_eq_true rfl⟩ rfl rfl (Nat.le_of_ble_eq_true rfl) (Nat.le_of_ble_eq_true rfl) rfl rfl rfl (fun Qc qc => cM_begin qc) ?_
        refine mx_vret dM_hold_67 rfl ?_
        exact hQ
      · refine mx_iconst (2) dM_hold_34 (by decide) ?_
        refine mx_goto 39 dM_hold_35 rfl ?_
        refine mx_put 8 0 (.int) dM_hold_39 fpM_49 rfl (Nat.le_of_ble_eq_true rfl) rfl rfl ?_
        refine mx_aload_n dM_hold_42 rfl ?_
        refine mx_get 8 0 dM_hold_43 fgM_49 rfl rfl ?_
        refine mx_if_ne 67 dM_hold_46 rfl (fun h46 => ?_) (fun h46 => ?_)
        rotate_left
        · exact absurd h46 (by decide)
        refine mx_vret dM_hold_67 rfl ?_
        first | (rw [if_pos h16] at hQ; exact hQ) | (rw [if_neg h16, if_pos h25] at hQ; exact hQ) | (rw [if_neg h16, if_neg h25, if_pos h31] at hQ; exact hQ)
  · refine mx_iconst (1) dM_hold_19 (by decide) ?_
    refine mx_goto 39 dM_hold_20 rfl ?_
    refine mx_put 8 0 (.int) dM_hold_39 fpM_49 rfl (Nat.le_of_ble_eq_true rfl) rfl rfl ?_
    refine mx_aload_n dM_hold_42 rfl ?_
    refine mx_get 8 0 dM_hold_43 fgM_49 rfl rfl ?_
    refine mx_if_ne 67 dM_hold_46 rfl (fun h46 => ?_) (fun h46 => ?_)
    rotate_left
    · exact absurd h46 (by decide)
    refine mx_vret dM_hold_67 rfl ?_
    first | (rw [if_pos h16] at hQ; exact hQ) | (rw [if_neg h16, if_pos h25] at hQ; exact hQ) | (rw [if_neg h16, if_neg h25, if_pos h31] at hQ; exact hQ)
theorem cM_held {c : Nat} {thr : Int32} {I : Nat → Nat → Int32} {Q : mx_O → List va_E → Prop} (hc : c ≤ 12) (hmn : ∀ w, w < 27 → I 4 w ≤ 40) {x y r : Int32} (hQ : Q (.inl (some (.int (rHeld c I x y r).1))) (rp (rHeld c I x y r).2 (nI c) I)) : mx_W mx_K mT mCl jM_held (mR 2 43) 0 [.ref 0, .int x, .int y, .int r, .retAddr 0] [] (rp thr (nI c) I) Q := by
  unfold rHeld at hQ
  refine mx_aload_n dM_held_0 rfl ?_
  refine mx_iload_n dM_held_1 rfl ?_
  refine mx_iload_n dM_held_2 rfl ?_
  refine mx_V1 (R' := (mR 1 21)) [_, _] _ dM_held_3 rfl mT_G jM_place_ok jM_place_v lkM_70 ⟨rfl, rfl, Nat.le_of_ble_eq_true rfl, Nat.le_of_ble_eq_true rfl⟩ rfl rfl (Nat.le_of_ble_eq_true rfl) (Nat.le_of_ble_eq_true rfl) rfl rfl rfl (fun Qc qc => cM_place (fun hg => by obtain ⟨u, _, _, rfl⟩ := hasG hc hg; exact vp_in_nI (by omega) (by decide)) qc) ?_
  refine mx_istore dM_held_6 (Nat.le_of_ble_eq_true rfl) rfl ?_
  refine mx_aload_n dM_held_8 rfl ?_
  refine mx_aload_n dM_held_9 rfl ?_
  refine mx_iload dM_held_10 rfl ?_
  refine mx_iload_n dM_held_12 rfl ?_
  refine mx_V1 (R' := (mR 1 21)) [_, _] _ dM_held_13 rfl mT_G jM_isRegister_ok jM_isRegister_v lkM_77 ⟨rfl, rfl, Nat.le_of_ble_eq_true rfl, Nat.le_of_ble_eq_true rfl⟩ rfl rfl (Nat.le_of_ble_eq_true rfl) (Nat.le_of_ble_eq_true rfl) rfl rfl rfl (fun Qc qc => cM_isRegister (place_vp hc) qc) ?_
  refine mx_if_eq 23 dM_held_16 rfl (fun h16 => ?_) (fun h16 => ?_)
  · refine mx_iconst (1) dM_held_23 (by decide) ?_
    refine mx_put 8 0 (.int) dM_held_24 fpM_49 rfl (Nat.le_of_ble_eq_true rfl) rfl rfl ?_
    refine mx_aload_n dM_held_27 rfl ?_
    refine mx_get 8 0 dM_held_28 fgM_49 rfl rfl ?_
    refine mx_if_ne 49 dM_held_31 rfl (fun h31 => ?_) (fun h31 => ?_)
    rotate_left
    · exact absurd h31 (by decide)
    refine mx_iconst (0) dM_held_49 (by decide) ?_
    refine mx_iret dM_held_50 rfl rfl ?_
    rw [if_pos h16] at hQ
    exact hQ
  · refine mx_iconst (0) dM_held_19 (by decide) ?_
    refine mx_goto 24 dM_held_20 rfl ?_
    refine mx_put 8 0 (.int) dM_held_24 fpM_49 rfl (Nat.le_of_ble_eq_true rfl) rfl rfl ?_
    refine mx_aload_n dM_held_27 rfl ?_
    refine mx_get 8 0 dM_held_28 fgM_49 rfl rfl ?_
    refine mx_if_ne 49 dM_held_31 rfl (fun h31 => ?_) (fun h31 => ?_)
    · exact absurd rfl h31
    obtain ⟨w, k, hw, hk, ew, ek⟩ := isR_nat hc hmn h16
    rw [if_neg h16, ew, ek, nI_clamp (by omega), nI_clamp (by omega)] at hQ
    rw [ew, ek]
    refine mx_aload_n dM_held_34 rfl ?_
    refine mx_get 8 6 dM_held_35 fgM_22 rfl rfl ?_
    refine mx_bipush (40) dM_held_38 (by decide) ?_
    refine mx_iload dM_held_40 rfl ?_
    refine mx_imul dM_held_42 ?_
    refine mx_iload_n dM_held_43 rfl ?_
    refine mx_iadd dM_held_44 ?_
    rw [show (40 : Int32) = nI 40 from rfl, pk_mul, nI_add]
    refine mx_iald dM_held_45 rfl (vp_in_nI (by omega) (by decide)) ?_
    rw [nI_clamp (by omega)]
    refine mx_goto 50 dM_held_46 rfl ?_
    refine mx_iret dM_held_50 rfl rfl ?_
    exact hQ
theorem cM_registers {c : Nat} {thr : Int32} {I : Nat → Nat → Int32} {Q : mx_O → List va_E → Prop} (hc : c ≤ 12) {x y : Int32} (hQ : Q (.inl (some (.int (rRegs c I x y).1))) (rp (rRegs c I x y).2 (nI c) I)) : mx_W mx_K mT mCl jM_registers (mR 2 43) 0 [.ref 0, .int x, .int y, .retAddr 0] [] (rp thr (nI c) I) Q := by
  unfold rRegs at hQ
  refine mx_aload_n dM_registers_0 rfl ?_
  refine mx_iload_n dM_registers_1 rfl ?_
  refine mx_iload_n dM_registers_2 rfl ?_
  refine mx_V1 (R' := (mR 1 21)) [_, _] _ dM_registers_3 rfl mT_G jM_place_ok jM_place_v lkM_70 ⟨rfl, rfl, Nat.le_of_ble_eq_true rfl, Nat.le_of_ble_eq_true rfl⟩ rfl rfl (Nat.le_of_ble_eq_true rfl) (Nat.le_of_ble_eq_true rfl) rfl rfl rfl (fun Qc qc => cM_place (fun hg => by obtain ⟨u, _, _, rfl⟩ := hasG hc hg; exact vp_in_nI (by omega) (by decide)) qc) ?_
  refine mx_istore_n dM_registers_6 (Nat.le_of_ble_eq_true rfl) rfl ?_
  refine mx_aload_n dM_registers_7 rfl ?_
  refine mx_aload_n dM_registers_8 rfl ?_
  refine mx_iload_n dM_registers_9 rfl ?_
  refine mx_V1 (R' := (mR 0 0)) [_] _ dM_registers_10 rfl mT_G jM_isWire_ok jM_isWire_v lkM_74 ⟨rfl, rfl, Nat.le_of_ble_eq_true rfl, Nat.le_of_ble_eq_true rfl⟩ rfl rfl (Nat.le_of_ble_eq_true rfl) (Nat.le_of_ble_eq_true rfl) rfl rfl rfl (fun Qc qc => cM_isWire (place_vp hc) qc) ?_
  refine mx_if_eq 20 dM_registers_13 rfl (fun h13 => ?_) (fun h13 => ?_)
  · refine mx_iconst (1) dM_registers_20 (by decide) ?_
    refine mx_put 8 0 (.int) dM_registers_21 fpM_49 rfl (Nat.le_of_ble_eq_true rfl) rfl rfl ?_
    refine mx_aload_n dM_registers_24 rfl ?_
    refine mx_get 8 0 dM_registers_25 fgM_49 rfl rfl ?_
    refine mx_if_ne 40 dM_registers_28 rfl (fun h28 => ?_) (fun h28 => ?_)
    rotate_left
    · exact absurd h28 (by decide)
    refine mx_iconst (0) dM_registers_40 (by decide) ?_
    refine mx_iret dM_registers_41 rfl rfl ?_
    rw [if_pos h13] at hQ
    exact hQ
  · refine mx_iconst (0) dM_registers_16 (by decide) ?_
    refine mx_goto 21 dM_registers_17 rfl ?_
    refine mx_put 8 0 (.int) dM_registers_21 fpM_49 rfl (Nat.le_of_ble_eq_true rfl) rfl rfl ?_
    refine mx_aload_n dM_registers_24 rfl ?_
    refine mx_get 8 0 dM_registers_25 fgM_49 rfl rfl ?_
    refine mx_if_ne 40 dM_registers_28 rfl (fun h28 => ?_) (fun h28 => ?_)
    · exact absurd rfl h28
    refine mx_aload_n dM_registers_31 rfl ?_
    refine mx_get 8 5 dM_registers_32 fgM_19 rfl rfl ?_
    refine mx_iload_n dM_registers_35 rfl ?_
    refine mx_iald dM_registers_36 rfl (place_vp hc (fun e => h13 (by unfold qM_isW; rw [if_pos e]))) ?_
    refine mx_goto 41 dM_registers_37 rfl ?_
    refine mx_iret dM_registers_41 rfl rfl ?_
    rw [if_neg h13] at hQ
    exact hQ
theorem cM_gates {c : Nat} {thr : Int32} {I : Nat → Nat → Int32} {Q : mx_O → List va_E → Prop} (hQ : Q (.inl (some (.int (nI c)))) (rp 0 (nI c) I)) : mx_W mx_K mT mCl jM_gates (mR 0 0) 0 [.ref 0] [] (rp thr (nI c) I) Q := by
  refine mx_aload_n dM_gates_0 rfl ?_
  refine mx_iconst (0) dM_gates_1 (by decide) ?_
  refine mx_put 8 0 (.int) dM_gates_2 fpM_49 rfl (Nat.le_of_ble_eq_true rfl) rfl rfl ?_
  refine mx_aload_n dM_gates_5 rfl ?_
  refine mx_get 8 1 dM_gates_6 fgM_53 rfl rfl ?_
  refine mx_iret dM_gates_9 rfl rfl ?_
  exact hQ
theorem cM_label {c : Nat} {thr : Int32} {I : Nat → Nat → Int32} {Q : mx_O → List va_E → Prop} (hc : c ≤ 12) {x : Int32} (hQ : Q (.inl (some (.int (rLab c I x).1))) (rp (rLab c I x).2 (nI c) I)) : mx_W mx_K mT mCl jM_label (mR 1 21) 0 [.ref 0, .int x] [] (rp thr (nI c) I) Q := by
  unfold rLab at hQ
  refine mx_aload_n dM_label_0 rfl ?_
  refine mx_aload_n dM_label_1 rfl ?_
  refine mx_iload_n dM_label_2 rfl ?_
  refine mx_V1 (R' := (mR 0 0)) [_] _ dM_label_3 rfl mT_G jM_isGate_ok jM_isGate_v lkM_60 ⟨rfl, rfl, Nat.le_of_ble_eq_true rfl, Nat.le_of_ble_eq_true rfl⟩ rfl rfl (Nat.le_of_ble_eq_true rfl) (Nat.le_of_ble_eq_true rfl) rfl rfl rfl (fun Qc qc => cM_isGate qc) ?_
  refine mx_if_eq 13 dM_label_6 rfl (fun h6 => ?_) (fun h6 => ?_)
  · refine mx_iconst (1) dM_label_13 (by decide) ?_
    refine mx_put 8 0 (.int) dM_label_14 fpM_49 rfl (Nat.le_of_ble_eq_true rfl) rfl rfl ?_
    refine mx_aload_n dM_label_17 rfl ?_
    refine mx_get 8 0 dM_label_18 fgM_49 rfl rfl ?_
    refine mx_if_ne 33 dM_label_21 rfl (fun h21 => ?_) (fun h21 => ?_)
    rotate_left
    · exact absurd h21 (by decide)
    refine mx_iconst (0) dM_label_33 (by decide) ?_
    refine mx_iret dM_label_34 rfl rfl ?_
    rw [if_pos h6] at hQ
    exact hQ
  · refine mx_iconst (0) dM_label_9 (by decide) ?_
    refine mx_goto 14 dM_label_10 rfl ?_
    refine mx_put 8 0 (.int) dM_label_14 fpM_49 rfl (Nat.le_of_ble_eq_true rfl) rfl rfl ?_
    refine mx_aload_n dM_label_17 rfl ?_
    refine mx_get 8 0 dM_label_18 fgM_49 rfl rfl ?_
    refine mx_if_ne 33 dM_label_21 rfl (fun h21 => ?_) (fun h21 => ?_)
    · exact absurd rfl h21
    refine mx_aload_n dM_label_24 rfl ?_
    refine mx_get 8 10 dM_label_25 fgM_34 rfl rfl ?_
    refine mx_iload_n dM_label_28 rfl ?_
    refine mx_iald dM_label_29 rfl (by obtain ⟨u, _, _, rfl⟩ := hasG hc h6; exact vp_in_nI (by omega) (by decide)) ?_
    refine mx_goto 34 dM_label_30 rfl ?_
    refine mx_iret dM_label_34 rfl rfl ?_
    rw [if_neg h6] at hQ
    exact hQ
theorem cM_restart {c : Nat} {thr : Int32} {I : Nat → Nat → Int32} {Q : mx_O → List va_E → Prop} (hQ : Q (.inl none) (rp 0 (nI c) (rbeg I))) : mx_W mx_K mT mCl jM_restart (mR 1 21) 0 [.ref 0] [] (rp thr (nI c) I) Q := by
  refine mx_aload_n dM_restart_0 rfl ?_
  refine mx_iconst (0) dM_restart_1 (by decide) ?_
  refine mx_put 8 0 (.int) dM_restart_2 fpM_49 rfl (Nat.le_of_ble_eq_true rfl) rfl rfl ?_
  refine mx_aload_n dM_restart_5 rfl ?_
  refine mx_V1 (R' := (mR 0 0)) [] _ dM_restart_6 rfl mT_G jM_begin_ok jM_begin_v lkM_67 ⟨rfl, rfl, Nat.le_of_ble_eq_true rfl, Nat.le_of_ble_eq_true rfl⟩ rfl rfl (Nat.le_of_ble_eq_true rfl) (Nat.le_of_ble_eq_true rfl) rfl rfl rfl (fun Qc qc => cM_begin qc) ?_
  refine mx_vret dM_restart_9 rfl ?_
  exact hQ
def rW1 (x : Int32) : Int32 := if x = 100000000 then 1000 else (x + 1023) >>> 10
def rWt (f : Nat → Int32) (u v : Nat) : Int32 := rW1 (f (13 * u + v))
def rDl (f d : Nat → Int32) (u v : Nat) : Int32 := 1024 * rWt f u v - f (13 * u + v) + d v
theorem cM_weightOf {thr cnt : Int32} {I : Nat → Nat → Int32} {Q : mx_O → List va_E → Prop} {u v : Nat} (hu : u < 13) (hv : v < 13) (hQ : Q (.inl (some (.int (rWt (I 12) u v)))) (rp thr cnt I)) : mx_W mx_K mT mCl jM_weightOf (mR 0 0) 0 [.ref 0, .int (nI u), .int (nI v), .retAddr 0] [] (rp thr cnt I) Q := by
  unfold rWt rW1 at hQ
  refine mx_aload_n dM_weightOf_0 rfl ?_
  refine mx_get 8 13 dM_weightOf_1 fgM_43 rfl rfl ?_
  refine mx_bipush (13) dM_weightOf_4 (by decide) ?_
  refine mx_iload_n dM_weightOf_6 rfl ?_
  refine mx_imul dM_weightOf_7 ?_
  refine mx_iload_n dM_weightOf_8 rfl ?_
  refine mx_iadd dM_weightOf_9 ?_
  rw [show (13 : Int32) = nI 13 from rfl, pk_mul, nI_add]
  refine mx_iald dM_weightOf_10 rfl (vp_in_nI (by omega) (by decide)) ?_
  rw [nI_clamp (by omega)]
  refine mx_istore_n dM_weightOf_11 (Nat.le_of_ble_eq_true rfl) rfl ?_
  refine mx_iload_n dM_weightOf_12 rfl ?_
  refine mx_ldc dM_weightOf_13 (mT_4 (i := 87) rfl rfl) ?_
  refine mx_icmp_ne 24 dM_weightOf_15 rfl (fun h15 => ?_) (fun h15 => ?_)
  · refine mx_iload_n dM_weightOf_24 rfl ?_
    refine mx_sipush (1023) dM_weightOf_25 (by decide) ?_
    refine mx_iadd dM_weightOf_28 ?_
    refine mx_bipush (10) dM_weightOf_29 (by decide) ?_
    refine mx_ishr dM_weightOf_31 ?_
    refine mx_iret dM_weightOf_32 rfl rfl ?_
    first | (rw [if_pos h15] at hQ; exact hQ) | (rw [if_pos (Classical.not_not.mp h15)] at hQ; exact hQ) | (rw [if_neg h15] at hQ; exact hQ)
  · refine mx_sipush (1000) dM_weightOf_18 (by decide) ?_
    refine mx_goto 32 dM_weightOf_21 rfl ?_
    refine mx_iret dM_weightOf_32 rfl rfl ?_
    first | (rw [if_pos h15] at hQ; exact hQ) | (rw [if_pos (Classical.not_not.mp h15)] at hQ; exact hQ) | (rw [if_neg h15] at hQ; exact hQ)
theorem cM_delayOf {thr cnt : Int32} {I : Nat → Nat → Int32} {Q : mx_O → List va_E → Prop} {u v : Nat} (hu : u < 13) (hv : v < 13) (hQ : Q (.inl (some (.int (rDl (I 12) (I 2) u v)))) (rp thr cnt I)) : mx_W mx_K mT mCl jM_delayOf (mR 1 23) 0 [.ref 0, .int (nI u), .int (nI v)] [] (rp thr cnt I) Q := by
  refine mx_sipush (1024) dM_delayOf_0 (by decide) ?_
  refine mx_aload_n dM_delayOf_3 rfl ?_
  refine mx_iload_n dM_delayOf_4 rfl ?_
  refine mx_iload_n dM_delayOf_5 rfl ?_
  refine mx_V1 (R' := (mR 0 0)) [_, _] _ dM_delayOf_6 rfl mT_G jM_weightOf_ok jM_weightOf_v lkM_85 ⟨rfl, rfl, Nat.le_of_ble_eq_true rfl, Nat.le_of_ble_eq_true rfl⟩ rfl rfl (Nat.le_of_ble_eq_true rfl) (Nat.le_of_ble_eq_true rfl) rfl rfl rfl (fun Qc qc => cM_weightOf hu hv qc) ?_
  refine mx_imul dM_delayOf_9 ?_
  refine mx_aload_n dM_delayOf_10 rfl ?_
  refine mx_get 8 13 dM_delayOf_11 fgM_43 rfl rfl ?_
  refine mx_bipush (13) dM_delayOf_14 (by decide) ?_
  refine mx_iload_n dM_delayOf_16 rfl ?_
  refine mx_imul dM_delayOf_17 ?_
  refine mx_iload_n dM_delayOf_18 rfl ?_
  refine mx_iadd dM_delayOf_19 ?_
  rw [show (13 : Int32) = nI 13 from rfl, pk_mul, nI_add]
  refine mx_iald dM_delayOf_20 rfl (vp_in_nI (by omega) (by decide)) ?_
  rw [nI_clamp (by omega)]
  refine mx_isub dM_delayOf_21 ?_
  refine mx_aload_n dM_delayOf_22 rfl ?_
  refine mx_get 8 3 dM_delayOf_23 fgM_13 rfl rfl ?_
  refine mx_iload_n dM_delayOf_26 rfl ?_
  refine mx_iald dM_delayOf_27 rfl (vp_in_nI (by omega) (by decide)) ?_
  rw [nI_clamp (by omega)]
  refine mx_iadd dM_delayOf_28 ?_
  refine mx_iret dM_delayOf_29 rfl rfl ?_
  exact hQ
def rLo (f : Nat → Int32) (x : Int32) : Int32 := if x ≤ 0 then 0 else f x.toNatClampNeg
def rLw (f : Nat → Int32) (x m : Int32) : (Nat → Int32) × Bool := if 0 < x then (let k := x.toNatClampNeg; let y := if f k ≤ m then f k else m; (upd f k y, decide (-6 ≤ y))) else (f, decide (0 ≤ m))
theorem cM_labelOf {thr cnt : Int32} {I : Nat → Nat → Int32} {Q : mx_O → List va_E → Prop} {x : Int32} (hx : 0 < x → vp_in x 13) (hQ : Q (.inl (some (.int (rLo (I 10) x)))) (rp thr cnt I)) : mx_W mx_K mT mCl jM_labelOf (mR 0 0) 0 [.ref 0, .int x] [] (rp thr cnt I) Q := by
  unfold rLo at hQ
  refine mx_iload_n dM_labelOf_0 rfl ?_
  refine mx_if_le 13 dM_labelOf_1 rfl (fun h1 => ?_) (fun h1 => ?_)
  · refine mx_iconst (0) dM_labelOf_13 (by decide) ?_
    refine mx_iret dM_labelOf_14 rfl rfl ?_
    first | (rw [if_pos h1] at hQ; exact hQ) | (rw [if_neg h1] at hQ; exact hQ)
  · refine mx_aload_n dM_labelOf_4 rfl ?_
    refine mx_get 8 11 dM_labelOf_5 fgM_37 rfl rfl ?_
    refine mx_iload_n dM_labelOf_8 rfl ?_
    refine mx_iald dM_labelOf_9 rfl (hx (by rw [Int32.lt_iff_toInt_lt]; rw [Int32.le_iff_toInt_le] at h1; omega)) ?_
    refine mx_goto 14 dM_labelOf_10 rfl ?_
    refine mx_iret dM_labelOf_14 rfl rfl ?_
    first | (rw [if_pos h1] at hQ; exact hQ) | (rw [if_neg h1] at hQ; exact hQ)
theorem cM_lower {thr cnt : Int32} {I : Nat → Nat → Int32} {Q : mx_O → List va_E → Prop} {x : Int32} (hx : 0 < x → vp_in x 13) {m : Int32} (hQ : Q (.inl (some (.int (i01 (rLw (I 10) x m).2)))) (rp thr cnt (upI I 10 (rLw (I 10) x m).1))) : mx_W mx_K mT mCl jM_lower (mR 0 0) 0 [.ref 0, .int x, .int m] [] (rp thr cnt I) Q := by
  have hlow : ¬ 0 < x → rLw (I 10) x m = (I 10, decide (0 ≤ m)) := fun h => by unfold rLw; rw [if_neg h]
  have hneg : ∀ z : Int32, (z < 0 → i01 (decide (0 ≤ z)) = 0) ∧ (¬ z < 0 → i01 (decide (0 ≤ z)) = 1) := fun z => by
    have hz : (0 ≤ z) ↔ ¬ z < 0 := by
      rw [Int32.lt_iff_toInt_lt, Int32.le_iff_toInt_le]
      show (0 : Int) ≤ z.toInt ↔ ¬ z.toInt < 0
      omega
    unfold i01
    exact ⟨fun h => by rw [decide_eq_false (fun q => hz.mp q h)]; rfl, fun h => by rw [decide_eq_true (hz.mpr h)]; rfl⟩
  have hneg6 : ∀ z : Int32, (z < -6 → i01 (decide (-6 ≤ z)) = 0) ∧ (¬ z < -6 → i01 (decide (-6 ≤ z)) = 1) := fun z => by
    have hz : (-6 ≤ z) ↔ ¬ z < -6 := by
      rw [Int32.lt_iff_toInt_lt, Int32.le_iff_toInt_le]
      show (-6 : Int) ≤ z.toInt ↔ ¬ z.toInt < -6
      omega
    unfold i01
    exact ⟨fun h => by rw [decide_eq_false (fun q => hz.mp q h)]; rfl, fun h => by rw [decide_eq_true (hz.mpr h)]; rfl⟩
  refine mx_iload_n dM_lower_0 rfl ?_
  refine mx_if_gt 14 dM_lower_1 rfl (fun h1 => ?_) (fun h1 => ?_)
  · have hx2 := hx h1
    unfold rLw at hQ
    rw [if_pos h1] at hQ
    simp only [] at hQ
    refine mx_aload_n dM_lower_14 rfl ?_
    refine mx_get 8 11 dM_lower_15 fgM_37 rfl rfl ?_
    refine mx_iload_n dM_lower_18 rfl ?_
    refine mx_aload_n dM_lower_19 rfl ?_
    refine mx_get 8 11 dM_lower_20 fgM_37 rfl rfl ?_
    refine mx_iload_n dM_lower_23 rfl ?_
    refine mx_iald dM_lower_24 rfl hx2 ?_
    refine mx_iload_n dM_lower_25 rfl ?_
    refine mx_icmp_le 33 dM_lower_26 rfl (fun h26 => ?_) (fun h26 => ?_)
    · refine mx_aload_n dM_lower_33 rfl ?_
      refine mx_get 8 11 dM_lower_34 fgM_37 rfl rfl ?_
      refine mx_iload_n dM_lower_37 rfl ?_
      refine mx_iald dM_lower_38 rfl hx2 ?_
      refine mx_iast dM_lower_39 rfl hx2 ?_
      refine mx_eqs rfl rfl rfl (rp_10 _) ?_
      refine mx_aload_n dM_lower_40 rfl ?_
      refine mx_get 8 11 dM_lower_41 fgM_37 rfl rfl ?_
      refine mx_iload_n dM_lower_44 rfl ?_
      refine mx_iald dM_lower_45 rfl hx2 ?_
      simp only [upI_self]
      rw [pk_us]
      refine mx_bipush (-6) dM_lower_46 (by decide) ?_
      refine mx_icmp_lt 55 dM_lower_48 rfl (fun h48 => ?_) (fun h48 => ?_)
      · refine mx_iconst (0) dM_lower_55 (by decide) ?_
        refine mx_iret dM_lower_56 rfl rfl ?_
        first | (rw [if_pos h26] at hQ) | (rw [if_neg h26] at hQ)
        first | (rw [(hneg6 _).1 h48] at hQ; exact hQ) | (rw [(hneg6 _).2 h48] at hQ; exact hQ)
      · refine mx_iconst (1) dM_lower_51 (by decide) ?_
        refine mx_goto 56 dM_lower_52 rfl ?_
        refine mx_iret dM_lower_56 rfl rfl ?_
        first | (rw [if_pos h26] at hQ) | (rw [if_neg h26] at hQ)
        first | (rw [(hneg6 _).1 h48] at hQ; exact hQ) | (rw [(hneg6 _).2 h48] at hQ; exact hQ)
    · refine mx_iload_n dM_lower_29 rfl ?_
      refine mx_goto 39 dM_lower_30 rfl ?_
      refine mx_iast dM_lower_39 rfl hx2 ?_
      refine mx_eqs rfl rfl rfl (rp_10 _) ?_
      refine mx_aload_n dM_lower_40 rfl ?_
      refine mx_get 8 11 dM_lower_41 fgM_37 rfl rfl ?_
      refine mx_iload_n dM_lower_44 rfl ?_
      refine mx_iald dM_lower_45 rfl hx2 ?_
      simp only [upI_self]
      rw [pk_us]
      refine mx_bipush (-6) dM_lower_46 (by decide) ?_
      refine mx_icmp_lt 55 dM_lower_48 rfl (fun h48 => ?_) (fun h48 => ?_)
      · refine mx_iconst (0) dM_lower_55 (by decide) ?_
        refine mx_iret dM_lower_56 rfl rfl ?_
        first | (rw [if_pos h26] at hQ) | (rw [if_neg h26] at hQ)
        first | (rw [(hneg6 _).1 h48] at hQ; exact hQ) | (rw [(hneg6 _).2 h48] at hQ; exact hQ)
      · refine mx_iconst (1) dM_lower_51 (by decide) ?_
        refine mx_goto 56 dM_lower_52 rfl ?_
        refine mx_iret dM_lower_56 rfl rfl ?_
        first | (rw [if_pos h26] at hQ) | (rw [if_neg h26] at hQ)
        first | (rw [(hneg6 _).1 h48] at hQ; exact hQ) | (rw [(hneg6 _).2 h48] at hQ; exact hQ)
  · rw [hlow h1, upI_own] at hQ
    refine mx_iload_n dM_lower_4 rfl ?_
    refine mx_if_lt 12 dM_lower_5 rfl (fun h5 => ?_) (fun h5 => ?_)
    · refine mx_iconst (0) dM_lower_12 (by decide) ?_
      refine mx_iret dM_lower_13 rfl rfl ?_
      first | (rw [(hneg m).1 h5] at hQ; exact hQ) | (rw [(hneg m).2 h5] at hQ; exact hQ)
    · refine mx_iconst (1) dM_lower_8 (by decide) ?_
      refine mx_goto 13 dM_lower_9 rfl ?_
      refine mx_iret dM_lower_13 rfl rfl ?_
      first | (rw [(hneg m).1 h5] at hQ; exact hQ) | (rw [(hneg m).2 h5] at hQ; exact hQ)
