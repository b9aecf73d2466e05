/-! Plan: its methods. -/
def qP_hasGate (cnt x : Int32) : Int32 := if x < 1 then 0 else if cnt < x then 0 else 1
def qP_isPort (x : Int32) : Int32 := if x < -3 then 0 else if -1 < x then 0 else 1
def qP_hasEnd (cnt x : Int32) : Int32 := if ¬ qP_hasGate cnt x = 0 then 1 else if qP_isPort x = 0 then 0 else 1
def qP_pinsOf (kd : Nat → Int32) (x : Int32) : Int32 := if 1 < kd x.toNatClampNeg then 2 else 1
def qP_firstPin (x : Int32) : Int32 := 2 * (x - 1)
def qP_placeOf (cnt : Int32) (kd : Nat → Int32) (x y : Int32) : Int32 := if 0 ≤ y then (if qP_hasGate cnt x = 0 then (if qP_isPort x = 0 then -1 else if ¬ y = 0 then -1 else 23 - x) else if qP_pinsOf kd x ≤ y then -1 else qP_firstPin x + y) else -1
def qP_gateBehind (sr : Nat → Int32) (x : Int32) : Int32 := if sr x.toNatClampNeg < 0 then 0 else sr x.toNatClampNeg
def qP_gateBefore (x : Int32) : Int32 := if 24 ≤ x then 0 else x / 2 + 1
theorem cP_hasGate {hp : List va_E} {b k1 k2 k3 : Nat} {cnt : Int32} {kd cs sr : Nat → Int32} {Q : mx_O → List va_E → Prop} (h : pP hp b k1 k2 k3 cnt kd cs sr) {x : Int32} (hQ : Q (.inl (some (.int (qP_hasGate cnt x)))) hp) : mx_W mx_K mT mCl jP_hasGate (mR 0 0) 0 [.ref b, .int x] [] hp Q := by
  refine mx_iload_n dP_hasGate_0 rfl ?_
  refine mx_iconst (1) dP_hasGate_1 (by decide) ?_
  refine mx_icmp_lt 17 dP_hasGate_2 rfl (fun h2 => ?_) (fun h2 => ?_)
  · refine mx_iconst (0) dP_hasGate_17 (by decide) ?_
    refine mx_iret dP_hasGate_18 rfl rfl ?_
    simpa [qP_hasGate, h2] using hQ
  · refine mx_iload_n dP_hasGate_5 rfl ?_
    refine mx_aload_n dP_hasGate_6 rfl ?_
    refine mx_get 1 0 dP_hasGate_7 fgP_21 h.1 rfl ?_
    refine mx_icmp_gt 17 dP_hasGate_10 rfl (fun h10 => ?_) (fun h10 => ?_)
    · refine mx_iconst (0) dP_hasGate_17 (by decide) ?_
      refine mx_iret dP_hasGate_18 rfl rfl ?_
      simpa [qP_hasGate, h2, h10] using hQ
    · refine mx_iconst (1) dP_hasGate_13 (by decide) ?_
      refine mx_goto 18 dP_hasGate_14 rfl ?_
      refine mx_iret dP_hasGate_18 rfl rfl ?_
      simpa [qP_hasGate, h2, h10] using hQ
theorem cP_isPort {hp : List va_E} {Q : mx_O → List va_E → Prop} {x : Int32} (hQ : Q (.inl (some (.int (qP_isPort x)))) hp) : mx_W mx_K mT mCl jP_isPort (mR 0 0) 0 [.int x] [] hp Q := by
  refine mx_iload_n dP_isPort_0 rfl ?_
  refine mx_bipush (-3) dP_isPort_1 (by decide) ?_
  refine mx_icmp_lt 15 dP_isPort_3 rfl (fun h3 => ?_) (fun h3 => ?_)
  · refine mx_iconst (0) dP_isPort_15 (by decide) ?_
    refine mx_iret dP_isPort_16 rfl rfl ?_
    simpa [qP_isPort, h3] using hQ
  · refine mx_iload_n dP_isPort_6 rfl ?_
    refine mx_iconst (-1) dP_isPort_7 (by decide) ?_
    refine mx_icmp_gt 15 dP_isPort_8 rfl (fun h8 => ?_) (fun h8 => ?_)
    · refine mx_iconst (0) dP_isPort_15 (by decide) ?_
      refine mx_iret dP_isPort_16 rfl rfl ?_
      simpa [qP_isPort, h3, h8] using hQ
    · refine mx_iconst (1) dP_isPort_11 (by decide) ?_
      refine mx_goto 16 dP_isPort_12 rfl ?_
      refine mx_iret dP_isPort_16 rfl rfl ?_
      simpa [qP_isPort, h3, h8] using hQ
theorem cP_pinsOf {hp : List va_E} {b k1 k2 k3 : Nat} {cnt : Int32} {kd cs sr : Nat → Int32} {Q : mx_O → List va_E → Prop} (h : pP hp b k1 k2 k3 cnt kd cs sr) {x : Int32} (hx : vp_in x 13) (hQ : Q (.inl (some (.int (qP_pinsOf kd x)))) hp) : mx_W mx_K mT mCl jP_pinsOf (mR 0 0) 0 [.ref b, .int x] [] hp Q := by
  refine mx_aload_n dP_pinsOf_0 rfl ?_
  refine mx_get 1 1 dP_pinsOf_1 fgP_9 h.1 rfl ?_
  refine mx_iload_n dP_pinsOf_4 rfl ?_
  refine mx_iald dP_pinsOf_5 h.2.1 hx ?_
  refine mx_iconst (1) dP_pinsOf_6 (by decide) ?_
  refine mx_icmp_gt 14 dP_pinsOf_7 rfl (fun h7 => ?_) (fun h7 => ?_)
  · refine mx_iconst (2) dP_pinsOf_14 (by decide) ?_
    refine mx_iret dP_pinsOf_15 rfl rfl ?_
    simpa [qP_pinsOf, h7] using hQ
  · refine mx_iconst (1) dP_pinsOf_10 (by decide) ?_
    refine mx_goto 15 dP_pinsOf_11 rfl ?_
    refine mx_iret dP_pinsOf_15 rfl rfl ?_
    simpa [qP_pinsOf, h7] using hQ
theorem cP_firstPin {hp : List va_E} {b : Nat} {Q : mx_O → List va_E → Prop} {x : Int32} (hQ : Q (.inl (some (.int (qP_firstPin x)))) hp) : mx_W mx_K mT mCl jP_firstPin (mR 0 0) 0 [.ref b, .int x] [] hp Q := by
  refine mx_iconst (2) dP_firstPin_0 (by decide) ?_
  refine mx_iload_n dP_firstPin_1 rfl ?_
  refine mx_iconst (1) dP_firstPin_2 (by decide) ?_
  refine mx_isub dP_firstPin_3 ?_
  refine mx_imul dP_firstPin_4 ?_
  refine mx_iret dP_firstPin_5 rfl rfl ?_
  exact hQ
theorem cP_hasEnd {hp : List va_E} {b k1 k2 k3 : Nat} {cnt : Int32} {kd cs sr : Nat → Int32} {Q : mx_O → List va_E → Prop} (h : pP hp b k1 k2 k3 cnt kd cs sr) {x : Int32} (hQ : Q (.inl (some (.int (qP_hasEnd cnt x)))) hp) : mx_W mx_K mT mCl jP_hasEnd (mR 1 21) 0 [.ref b, .int x] [] hp Q := by
  refine mx_aload_n dP_hasEnd_0 rfl ?_
  refine mx_iload_n dP_hasEnd_1 rfl ?_
  refine mx_V1 (R' := (mR 0 0)) [_] _ dP_hasEnd_2 rfl mT_G jP_hasGate_ok jP_hasGate_v lkP_25 ⟨rfl, rfl, Nat.le_of_ble_eq_true rfl, Nat.le_of_ble_eq_true rfl⟩ rfl rfl (Nat.le_of_ble_eq_true rfl) (Nat.le_of_ble_eq_true rfl) h.1 rfl rfl (fun Qc qc => cP_hasGate h qc) ?_
  refine mx_if_ne 15 dP_hasEnd_5 rfl (fun h5 => ?_) (fun h5 => ?_)
  · refine mx_iconst (1) dP_hasEnd_15 (by decide) ?_
    refine mx_goto 20 dP_hasEnd_16 rfl ?_
    refine mx_iret dP_hasEnd_20 rfl rfl ?_
    simpa [qP_hasEnd, h5] using hQ
  · refine mx_iload_n dP_hasEnd_8 rfl ?_
    refine mx_S1 (R' := (mR 0 0)) [_] _ dP_hasEnd_9 rfl mT_G jP_isPort_ok jP_isPort_v lkP_29 ⟨rfl, rfl, Nat.le_of_ble_eq_true rfl, Nat.le_of_ble_eq_true rfl⟩ rfl rfl (Nat.le_of_ble_eq_true rfl) (Nat.le_of_ble_eq_true rfl) (fun Qc qc => cP_isPort qc) ?_
    refine mx_if_eq 19 dP_hasEnd_12 rfl (fun h12 => ?_) (fun h12 => ?_)
    · refine mx_iconst (0) dP_hasEnd_19 (by decide) ?_
      refine mx_iret dP_hasEnd_20 rfl rfl ?_
      simpa [qP_hasEnd, h5, h12] using hQ
    · refine mx_iconst (1) dP_hasEnd_15 (by decide) ?_
      refine mx_goto 20 dP_hasEnd_16 rfl ?_
      refine mx_iret dP_hasEnd_20 rfl rfl ?_
      simpa [qP_hasEnd, h5, h12] using hQ
theorem cP_endOfPins {hp : List va_E} {b k1 k2 k3 : Nat} {cnt : Int32} {kd cs sr : Nat → Int32} {Q : mx_O → List va_E → Prop} (h : pP hp b k1 k2 k3 cnt kd cs sr) {x : Int32} (hx : vp_in x 13) (hQ : Q (.inl (some (.int (qP_firstPin x + qP_pinsOf kd x)))) hp) : mx_W mx_K mT mCl jP_endOfPins (mR 1 21) 0 [.ref b, .int x] [] hp Q := by
  refine mx_aload_n dP_endOfPins_0 rfl ?_
  refine mx_iload_n dP_endOfPins_1 rfl ?_
  refine mx_V1 (R' := (mR 0 0)) [_] _ dP_endOfPins_2 rfl mT_G jP_firstPin_ok jP_firstPin_v lkP_36 ⟨rfl, rfl, Nat.le_of_ble_eq_true rfl, Nat.le_of_ble_eq_true rfl⟩ rfl rfl (Nat.le_of_ble_eq_true rfl) (Nat.le_of_ble_eq_true rfl) h.1 rfl rfl (fun Qc qc => cP_firstPin qc) ?_
  refine mx_aload_n dP_endOfPins_5 rfl ?_
  refine mx_iload_n dP_endOfPins_6 rfl ?_
  refine mx_V1 (R' := (mR 0 0)) [_] _ dP_endOfPins_7 rfl mT_G jP_pinsOf_ok jP_pinsOf_v lkP_32 ⟨rfl, rfl, Nat.le_of_ble_eq_true rfl, Nat.le_of_ble_eq_true rfl⟩ rfl rfl (Nat.le_of_ble_eq_true rfl) (Nat.le_of_ble_eq_true rfl) h.1 rfl rfl (fun Qc qc => cP_pinsOf h hx qc) ?_
  refine mx_iadd dP_endOfPins_10 ?_
  refine mx_iret dP_endOfPins_11 rfl rfl ?_
  exact hQ
theorem cP_placeOf {hp : List va_E} {b k1 k2 k3 : Nat} {cnt : Int32} {kd cs sr : Nat → Int32} {Q : mx_O → List va_E → Prop} (h : pP hp b k1 k2 k3 cnt kd cs sr) {x y : Int32} (hx : qP_hasGate cnt x ≠ 0 → vp_in x 13) (hQ : Q (.inl (some (.int (qP_placeOf cnt kd x y)))) hp) : mx_W mx_K mT mCl jP_placeOf (mR 1 21) 0 [.ref b, .int x, .int y] [] hp Q := by
  refine mx_iload_n dP_placeOf_0 rfl ?_
  refine mx_if_ge 6 dP_placeOf_1 rfl (fun h1 => ?_) (fun h1 => ?_)
  · refine mx_aload_n dP_placeOf_6 rfl ?_
    refine mx_iload_n dP_placeOf_7 rfl ?_
    refine mx_V1 (R' := (mR 0 0)) [_] _ dP_placeOf_8 rfl mT_G jP_hasGate_ok jP_hasGate_v lkP_25 ⟨rfl, rfl, Nat.le_of_ble_eq_true rfl, Nat.le_of_ble_eq_true rfl⟩ rfl rfl (Nat.le_of_ble_eq_true rfl) (Nat.le_of_ble_eq_true rfl) h.1 rfl rfl (fun Qc qc => cP_hasGate h qc) ?_
    refine mx_if_eq 35 dP_placeOf_11 rfl (fun h11 => ?_) (fun h11 => ?_)
    · refine mx_iload_n dP_placeOf_35 rfl ?_
      refine mx_S1 (R' := (mR 0 0)) [_] _ dP_placeOf_36 rfl mT_G jP_isPort_ok jP_isPort_v lkP_29 ⟨rfl, rfl, Nat.le_of_ble_eq_true rfl, Nat.le_of_ble_eq_true rfl⟩ rfl rfl (Nat.le_of_ble_eq_true rfl) (Nat.le_of_ble_eq_true rfl) (fun Qc qc => cP_isPort qc) ?_
      refine mx_if_eq 53 dP_placeOf_39 rfl (fun h39 => ?_) (fun h39 => ?_)
      · refine mx_iconst (-1) dP_placeOf_53 (by decide) ?_
        refine mx_iret dP_placeOf_54 rfl rfl ?_
        simpa [qP_placeOf, h1, h11, h39] using hQ
      · refine mx_iload_n dP_placeOf_42 rfl ?_
        refine mx_if_ne 53 dP_placeOf_43 rfl (fun h43 => ?_) (fun h43 => ?_)
        · refine mx_iconst (-1) dP_placeOf_53 (by decide) ?_
          refine mx_iret dP_placeOf_54 rfl rfl ?_
          simpa [qP_placeOf, h1, h11, h39, h43] using hQ
        · refine mx_bipush (23) dP_placeOf_46 (by decide) ?_
          refine mx_iload_n dP_placeOf_48 rfl ?_
          refine mx_isub dP_placeOf_49 ?_
          refine mx_goto 54 dP_placeOf_50 rfl ?_
          refine mx_iret dP_placeOf_54 rfl rfl ?_
          simpa [qP_placeOf, h1, h11, h39, h43] using hQ
    · refine mx_iload_n dP_placeOf_14 rfl ?_
      refine mx_aload_n dP_placeOf_15 rfl ?_
      refine mx_iload_n dP_placeOf_16 rfl ?_
      refine mx_V1 (R' := (mR 0 0)) [_] _ dP_placeOf_17 rfl mT_G jP_pinsOf_ok jP_pinsOf_v lkP_32 ⟨rfl, rfl, Nat.le_of_ble_eq_true rfl, Nat.le_of_ble_eq_true rfl⟩ rfl rfl (Nat.le_of_ble_eq_true rfl) (Nat.le_of_ble_eq_true rfl) h.1 rfl rfl (fun Qc qc => cP_pinsOf h (hx h11) qc) ?_
      refine mx_icmp_ge 33 dP_placeOf_20 rfl (fun h20 => ?_) (fun h20 => ?_)
      · refine mx_iconst (-1) dP_placeOf_33 (by decide) ?_
        refine mx_iret dP_placeOf_34 rfl rfl ?_
        simpa [qP_placeOf, h1, h11, h20] using hQ
      · refine mx_aload_n dP_placeOf_23 rfl ?_
        refine mx_iload_n dP_placeOf_24 rfl ?_
        refine mx_V1 (R' := (mR 0 0)) [_] _ dP_placeOf_25 rfl mT_G jP_firstPin_ok jP_firstPin_v lkP_36 ⟨rfl, rfl, Nat.le_of_ble_eq_true rfl, Nat.le_of_ble_eq_true rfl⟩ rfl rfl (Nat.le_of_ble_eq_true rfl) (Nat.le_of_ble_eq_true rfl) h.1 rfl rfl (fun Qc qc => cP_firstPin qc) ?_
        refine mx_iload_n dP_placeOf_28 rfl ?_
        refine mx_iadd dP_placeOf_29 ?_
        refine mx_goto 34 dP_placeOf_30 rfl ?_
        refine mx_iret dP_placeOf_34 rfl rfl ?_
        simpa [qP_placeOf, h1, h11, h20] using hQ
  · refine mx_iconst (-1) dP_placeOf_4 (by decide) ?_
    refine mx_iret dP_placeOf_5 rfl rfl ?_
    simpa [qP_placeOf, h1] using hQ
theorem cP_gateBehind {hp : List va_E} {b k1 k2 k3 : Nat} {cnt : Int32} {kd cs sr : Nat → Int32} {Q : mx_O → List va_E → Prop} (h : pP hp b k1 k2 k3 cnt kd cs sr) {x : Int32} (hx : vp_in x 27) (hQ : Q (.inl (some (.int (qP_gateBehind sr x)))) hp) : mx_W mx_K mT mCl jP_gateBehind (mR 1 24) 0 [.ref b, .int x] [] hp Q := by
  refine mx_aload_n dP_gateBehind_0 rfl ?_
  refine mx_get 1 3 dP_gateBehind_1 fgP_18 h.1 rfl ?_
  refine mx_iload_n dP_gateBehind_4 rfl ?_
  refine mx_iald dP_gateBehind_5 h.2.2.2 hx ?_
  refine mx_iconst (0) dP_gateBehind_6 (by decide) ?_
  refine mx_max dP_gateBehind_7 (mT_1 (i := 234) rfl rfl) (mT_1 (i := 235) rfl rfl) (mT_1 (i := 17) rfl rfl) (mT_1 (i := 236) rfl rfl) (Nat.le_of_ble_eq_true rfl) (Nat.le_of_ble_eq_true rfl) ?_
  refine mx_iret dP_gateBehind_10 rfl rfl ?_
  exact hQ
theorem cP_gateBefore {hp : List va_E} {b : Nat} {Q : mx_O → List va_E → Prop} {x : Int32} (hQ : Q (.inl (some (.int (qP_gateBefore x)))) hp) : mx_W mx_K mT mCl jP_gateBefore (mR 0 0) 0 [.ref b, .int x] [] hp Q := by
  refine mx_iload_n dP_gateBefore_0 rfl ?_
  refine mx_bipush (24) dP_gateBefore_1 (by decide) ?_
  refine mx_icmp_ge 14 dP_gateBefore_3 rfl (fun h3 => ?_) (fun h3 => ?_)
  · refine mx_iconst (0) dP_gateBefore_14 (by decide) ?_
    refine mx_iret dP_gateBefore_15 rfl rfl ?_
    simpa [qP_gateBefore, h3] using hQ
  · refine mx_iload_n dP_gateBefore_6 rfl ?_
    refine mx_iconst (2) dP_gateBefore_7 (by decide) ?_
    refine mx_idiv dP_gateBefore_8 (by decide) ?_
    refine mx_iconst (1) dP_gateBefore_9 (by decide) ?_
    refine mx_iadd dP_gateBefore_10 ?_
    refine mx_goto 15 dP_gateBefore_11 rfl ?_
    refine mx_iret dP_gateBefore_15 rfl rfl ?_
    simpa [qP_gateBefore, h3] using hQ
