/-! MovedRegisters: its public methods: what each answers or throws, and the picture behind it. -/
abbrev aR : Type := mx_O × List va_E
def aGate (c : Nat) (fil : Int32) (I : Nat → Nat → Int32) (L : Nat → Nat → Int64) (x y : Int32) : aR := if x < 0 then (.inr 0, pic (nI c) fil I L) else if 4 < x then (.inr 0, pic (nI c) fil I L) else if y < 0 then (.inr 0, pic (nI c) fil I L) else if ¬ y ≤ 50 then (.inr 0, pic (nI c) fil I L) else if ¬ nI c < 12 then (.inr 1, pic (nI c) fil I L)
  else (.inl (some (.int (nI (c + 1)))), pic (nI (c + 1)) fil (begI (upI (upI I 10 (upd (I 10) (c + 1) x)) 11 (upd (I 11) (c + 1) y))) (begL L))
theorem cA_gate {c : Nat} {fil : Int32} {I : Nat → Nat → Int32} {L : Nat → Nat → Int64} {Q : mx_O → List va_E → Prop} (hc : c ≤ 12) {x y : Int32} (hQ : Q (aGate c fil I L x y).1 (aGate c fil I L x y).2) : mx_W mx_K mT mCl jA_gate (mRT 6 102) 0 [.ref 0, .int x, .int y] [] (pic (nI c) fil I L) Q := by
  refine mx_iload_n dA_gate_0 rfl ?_
  refine mx_if_lt 19 dA_gate_1 rfl (fun h1 => ?_) (fun h1 => ?_)
  · refine mx_throw 0 dA_gate_19 dA_gate_22 dA_gate_23 dA_gate_26 mT_G (mT_2 (i := 25) rfl rfl) (mT_2 (i := 26) rfl rfl) (mT_1 (i := 13) rfl rfl) (by decide +kernel) (tw_of tw_67) (Nat.le_of_ble_eq_true rfl) (Nat.le_of_ble_eq_true rfl) (Nat.le_refl _) (Nat.le_refl _) ?_
    have e : aGate c fil I L x y = (.inr 0, pic (nI c) fil I L) := by
      unfold aGate
      (repeat' split) <;> first | rfl | contradiction
    rw [e] at hQ
    exact hQ
  · refine mx_iload_n dA_gate_4 rfl ?_
    refine mx_iconst (4) dA_gate_5 (by decide) ?_
    refine mx_icmp_gt 19 dA_gate_6 rfl (fun h6 => ?_) (fun h6 => ?_)
    · refine mx_throw 0 dA_gate_19 dA_gate_22 dA_gate_23 dA_gate_26 mT_G (mT_2 (i := 25) rfl rfl) (mT_2 (i := 26) rfl rfl) (mT_1 (i := 13) rfl rfl) (by decide +kernel) (tw_of tw_67) (Nat.le_of_ble_eq_true rfl) (Nat.le_of_ble_eq_true rfl) (Nat.le_refl _) (Nat.le_refl _) ?_
      have e : aGate c fil I L x y = (.inr 0, pic (nI c) fil I L) := by
        unfold aGate
        (repeat' split) <;> first | rfl | contradiction
      rw [e] at hQ
      exact hQ
    · refine mx_iload_n dA_gate_9 rfl ?_
      refine mx_if_lt 19 dA_gate_10 rfl (fun h10 => ?_) (fun h10 => ?_)
      · refine mx_throw 0 dA_gate_19 dA_gate_22 dA_gate_23 dA_gate_26 mT_G (mT_2 (i := 25) rfl rfl) (mT_2 (i := 26) rfl rfl) (mT_1 (i := 13) rfl rfl) (by decide +kernel) (tw_of tw_67) (Nat.le_of_ble_eq_true rfl) (Nat.le_of_ble_eq_true rfl) (Nat.le_refl _) (Nat.le_refl _) ?_
        have e : aGate c fil I L x y = (.inr 0, pic (nI c) fil I L) := by
          unfold aGate
          (repeat' split) <;> first | rfl | contradiction
        rw [e] at hQ
        exact hQ
      · refine mx_iload_n dA_gate_13 rfl ?_
        refine mx_bipush (50) dA_gate_14 (by decide) ?_
        refine mx_icmp_le 27 dA_gate_16 rfl (fun h16 => ?_) (fun h16 => ?_)
        · refine mx_aload_n dA_gate_27 rfl ?_
          refine mx_get 0 0 dA_gate_28 fgA_12 rfl rfl ?_
          refine mx_get 1 0 dA_gate_31 fgA_68 rfl rfl ?_
          refine mx_bipush (12) dA_gate_34 (by decide) ?_
          refine mx_icmp_lt 47 dA_gate_36 rfl (fun h36 => ?_) (fun h36 => ?_)
          · have hlt : c < 12 := (nI_ltI (b := 12) (by omega) (by decide)).mp h36
            refine mx_aload_n dA_gate_47 rfl ?_
            refine mx_get 0 0 dA_gate_48 fgA_12 rfl rfl ?_
            refine mx_iload_n dA_gate_51 rfl ?_
            refine mx_iload_n dA_gate_52 rfl ?_
            refine mx_V1 (R' := (mR 0 0)) [_, _] _ dA_gate_53 rfl mT_G jP_addGate_ok jP_addGate_v lkA_75 ⟨rfl, rfl, Nat.le_of_ble_eq_true rfl, Nat.le_of_ble_eq_true rfl⟩ rfl rfl (Nat.le_of_ble_eq_true rfl) (Nat.le_of_ble_eq_true rfl) rfl rfl rfl (fun Qc qc => cP_addGate hlt qc) ?_
            refine mx_aload_n dA_gate_56 rfl ?_
            refine mx_get 0 7 dA_gate_57 fgA_57 rfl rfl ?_
            refine mx_aload_n dA_gate_60 rfl ?_
            refine mx_get 0 1 dA_gate_61 fgA_19 rfl rfl ?_
            refine mx_V1 (R' := (mR 2 81)) [_] _ dA_gate_64 rfl mT_G jC_begin_ok jC_begin_v lkA_79 ⟨rfl, rfl, Nat.le_of_ble_eq_true rfl, Nat.le_of_ble_eq_true rfl⟩ rfl rfl (Nat.le_of_ble_eq_true rfl) (Nat.le_of_ble_eq_true rfl) rfl rfl rfl (fun Qc qc => cC_begin (bs := 24) (kv0 := 25) (kl := 65) (kv := 66) (kl2 := 13) (kv2 := 14) rfl pic_S pic_B (by decide) (by decide) qc) ?_
            rw [pic_beg]
            refine mx_aload_n dA_gate_67 rfl ?_
            refine mx_get 0 0 dA_gate_68 fgA_12 rfl rfl ?_
            refine mx_get 1 0 dA_gate_71 fgA_68 rfl rfl ?_
            refine mx_iret dA_gate_74 rfl rfl ?_
            have e : aGate c fil I L x y = (.inl (some (.int (nI (c + 1)))), pic (nI (c + 1)) fil (begI (upI (upI I 10 (upd (I 10) (c + 1) x)) 11 (upd (I 11) (c + 1) y))) (begL L)) := by
              unfold aGate
              (repeat' split) <;> first | rfl | contradiction
            rw [e] at hQ
            exact hQ
          · refine mx_throw 1 dA_gate_39 dA_gate_42 dA_gate_43 dA_gate_46 mT_G (mT_2 (i := 89) rfl rfl) (mT_2 (i := 90) rfl rfl) (mT_1 (i := 14) rfl rfl) (by decide +kernel) (tw_of tw_74) (Nat.le_of_ble_eq_true rfl) (Nat.le_of_ble_eq_true rfl) (Nat.le_refl _) (Nat.le_refl _) ?_
            have e : aGate c fil I L x y = (.inr 1, pic (nI c) fil I L) := by
              unfold aGate
              (repeat' split) <;> first | rfl | contradiction
            rw [e] at hQ
            exact hQ
        · refine mx_throw 0 dA_gate_19 dA_gate_22 dA_gate_23 dA_gate_26 mT_G (mT_2 (i := 25) rfl rfl) (mT_2 (i := 26) rfl rfl) (mT_1 (i := 13) rfl rfl) (by decide +kernel) (tw_of tw_67) (Nat.le_of_ble_eq_true rfl) (Nat.le_of_ble_eq_true rfl) (Nat.le_refl _) (Nat.le_refl _) ?_
          have e : aGate c fil I L x y = (.inr 0, pic (nI c) fil I L) := by
            unfold aGate
            (repeat' split) <;> first | rfl | contradiction
          rw [e] at hQ
          exact hQ
def aWire (c : Nat) (fil : Int32) (I : Nat → Nat → Int32) (L : Nat → Nat → Int64) (x s y r : Int32) : aR := if qP_hasEnd (nI c) x = 0 then (.inr 2, pic (nI c) fil I L) else if qP_hasEnd (nI c) s = 0 then (.inr 2, pic (nI c) fil I L) else if qP_placeOf (nI c) (I 10) s y = -1 then (.inr 0, pic (nI c) fil I L) else if r < 0 then (.inr 0, pic (nI c) fil I L) else if ¬ r ≤ 4 then (.inr 0, pic (nI c) fil I L)
  else (.inl none, pic (nI c) fil (begI (upI (upI I 12 (upd (I 12) (qP_placeOf (nI c) (I 10) s y).toNatClampNeg x)) 13 (upd (I 13) (qP_placeOf (nI c) (I 10) s y).toNatClampNeg r))) (begL (upL L 14 (vp_updL (L 14) (qP_placeOf (nI c) (I 10) s y).toNatClampNeg (bFill (L 14 (qP_placeOf (nI c) (I 10) s y).toNatClampNeg) r.toNatClampNeg)))))
theorem cA_wire {c : Nat} {fil : Int32} {I : Nat → Nat → Int32} {L : Nat → Nat → Int64} {Q : mx_O → List va_E → Prop} (hc : c ≤ 12) {x s y r : Int32} (hQ : Q (aWire c fil I L x s y r).1 (aWire c fil I L x s y r).2) : mx_W mx_K mT mCl jA_wire (mRT 6 102) 0 [.ref 0, .int x, .int s, .int y, .int r, .retAddr 0] [] (pic (nI c) fil I L) Q := by
  refine mx_aload_n dA_wire_0 rfl ?_
  refine mx_get 0 0 dA_wire_1 fgA_12 rfl rfl ?_
  refine mx_iload_n dA_wire_4 rfl ?_
  refine mx_V1 (R' := (mR 1 21)) [_] _ dA_wire_5 rfl mT_G jP_hasEnd_ok jP_hasEnd_v lkA_83 ⟨rfl, rfl, Nat.le_of_ble_eq_true rfl, Nat.le_of_ble_eq_true rfl⟩ rfl rfl (Nat.le_of_ble_eq_true rfl) (Nat.le_of_ble_eq_true rfl) rfl rfl rfl (fun Qc qc => cP_hasEnd pic_P qc) ?_
  refine mx_if_eq 22 dA_wire_8 rfl (fun h8 => ?_) (fun h8 => ?_)
  · refine mx_throw 2 dA_wire_22 dA_wire_25 dA_wire_26 dA_wire_29 mT_G (mT_2 (i := 127) rfl rfl) (mT_2 (i := 128) rfl rfl) (mT_1 (i := 16) rfl rfl) (by decide +kernel) (tw_of tw_89) (Nat.le_of_ble_eq_true rfl) (Nat.le_of_ble_eq_true rfl) (Nat.le_refl _) (Nat.le_refl _) ?_
    have e : aWire c fil I L x s y r = (.inr 2, pic (nI c) fil I L) := by
      unfold aWire
      (repeat' split) <;> first | rfl | contradiction
    rw [e] at hQ
    exact hQ
  · refine mx_aload_n dA_wire_11 rfl ?_
    refine mx_get 0 0 dA_wire_12 fgA_12 rfl rfl ?_
    refine mx_iload_n dA_wire_15 rfl ?_
    refine mx_V1 (R' := (mR 1 21)) [_] _ dA_wire_16 rfl mT_G jP_hasEnd_ok jP_hasEnd_v lkA_83 ⟨rfl, rfl, Nat.le_of_ble_eq_true rfl, Nat.le_of_ble_eq_true rfl⟩ rfl rfl (Nat.le_of_ble_eq_true rfl) (Nat.le_of_ble_eq_true rfl) rfl rfl rfl (fun Qc qc => cP_hasEnd pic_P qc) ?_
    refine mx_if_ne 30 dA_wire_19 rfl (fun h19 => ?_) (fun h19 => ?_)
    · refine mx_aload_n dA_wire_30 rfl ?_
      refine mx_get 0 0 dA_wire_31 fgA_12 rfl rfl ?_
      refine mx_iload_n dA_wire_34 rfl ?_
      refine mx_iload_n dA_wire_35 rfl ?_
      refine mx_V1 (R' := (mR 1 21)) [_, _] _ dA_wire_36 rfl mT_G jP_placeOf_ok jP_placeOf_v lkA_90 ⟨rfl, rfl, Nat.le_of_ble_eq_true rfl, Nat.le_of_ble_eq_true rfl⟩ rfl rfl (Nat.le_of_ble_eq_true rfl) (Nat.le_of_ble_eq_true rfl) rfl rfl rfl (fun Qc qc => cP_placeOf pic_P (fun hg => by obtain ⟨u, _, _, rfl⟩ := hasG hc hg; exact vp_in_nI (by omega) (by decide)) qc) ?_
      refine mx_istore dA_wire_39 (Nat.le_of_ble_eq_true rfl) rfl ?_
      refine mx_iload dA_wire_41 rfl ?_
      refine mx_iconst (-1) dA_wire_43 (by decide) ?_
      refine mx_icmp_eq 58 dA_wire_44 rfl (fun h44 => ?_) (fun h44 => ?_)
      · refine mx_throw 0 dA_wire_58 dA_wire_61 dA_wire_62 dA_wire_65 mT_G (mT_2 (i := 25) rfl rfl) (mT_2 (i := 26) rfl rfl) (mT_1 (i := 13) rfl rfl) (by decide +kernel) (tw_of tw_67) (Nat.le_of_ble_eq_true rfl) (Nat.le_of_ble_eq_true rfl) (Nat.le_refl _) (Nat.le_refl _) ?_
        have e : aWire c fil I L x s y r = (.inr 0, pic (nI c) fil I L) := by
          unfold aWire
          (repeat' split) <;> first | rfl | contradiction
        rw [e] at hQ
        exact hQ
      · refine mx_iload dA_wire_47 rfl ?_
        refine mx_if_lt 58 dA_wire_49 rfl (fun h49 => ?_) (fun h49 => ?_)
        · refine mx_throw 0 dA_wire_58 dA_wire_61 dA_wire_62 dA_wire_65 mT_G (mT_2 (i := 25) rfl rfl) (mT_2 (i := 26) rfl rfl) (mT_1 (i := 13) rfl rfl) (by decide +kernel) (tw_of tw_67) (Nat.le_of_ble_eq_true rfl) (Nat.le_of_ble_eq_true rfl) (Nat.le_refl _) (Nat.le_refl _) ?_
          have e : aWire c fil I L x s y r = (.inr 0, pic (nI c) fil I L) := by
            unfold aWire
            (repeat' split) <;> first | rfl | contradiction
          rw [e] at hQ
          exact hQ
        · refine mx_iload dA_wire_52 rfl ?_
          refine mx_iconst (4) dA_wire_54 (by decide) ?_
          refine mx_icmp_le 66 dA_wire_55 rfl (fun h55 => ?_) (fun h55 => ?_)
          · obtain ⟨w, hw, ew⟩ := place_in hc h44
            obtain ⟨ρ, hρ, rfl⟩ := nI_of h49
            have hρ4 : ρ ≤ 4 := (nI_leI (b := 4) hρ (by decide)).mp h55
            have hQ2 : Q (.inl none) (pic (nI c) fil (begI (upI (upI I 12 (upd (I 12) (qP_placeOf (nI c) (I 10) s y).toNatClampNeg x)) 13 (upd (I 13) (qP_placeOf (nI c) (I 10) s y).toNatClampNeg (nI ρ)))) (begL (upL L 14 (vp_updL (L 14) (qP_placeOf (nI c) (I 10) s y).toNatClampNeg (bFill (L 14 (qP_placeOf (nI c) (I 10) s y).toNatClampNeg) (nI ρ).toNatClampNeg))))) := by
              have e : aWire c fil I L x s y (nI ρ) = (.inl none, pic (nI c) fil (begI (upI (upI I 12 (upd (I 12) (qP_placeOf (nI c) (I 10) s y).toNatClampNeg x)) 13 (upd (I 13) (qP_placeOf (nI c) (I 10) s y).toNatClampNeg (nI ρ)))) (begL (upL L 14 (vp_updL (L 14) (qP_placeOf (nI c) (I 10) s y).toNatClampNeg (bFill (L 14 (qP_placeOf (nI c) (I 10) s y).toNatClampNeg) (nI ρ).toNatClampNeg))))) := by
                unfold aWire
                (repeat' split) <;> first | rfl | contradiction
              rw [e] at hQ
              exact hQ
            rw [ew, nI_clamp (by omega), nI_clamp (by omega)] at hQ2
            rw [ew]
            refine mx_aload_n dA_wire_66 rfl ?_
            refine mx_get 0 0 dA_wire_67 fgA_12 rfl rfl ?_
            refine mx_get 1 3 dA_wire_70 fgA_94 rfl rfl ?_
            refine mx_iload dA_wire_73 rfl ?_
            refine mx_iload_n dA_wire_75 rfl ?_
            refine mx_iast dA_wire_76 rfl (vp_in_nI (by omega) (by decide)) ?_
            rw [nI_clamp (by omega)]
            refine mx_eqs rfl rfl rfl (pic_12 _) ?_
            refine mx_aload_n dA_wire_77 rfl ?_
            refine mx_get 0 1 dA_wire_78 fgA_19 rfl rfl ?_
            refine mx_iload dA_wire_81 rfl ?_
            refine mx_iload dA_wire_83 rfl ?_
            refine mx_V1 (R' := (mR 2 47)) [_, _] _ dA_wire_85 rfl mT_G jB_fill_ok jB_fill_v lkA_97 ⟨rfl, rfl, Nat.le_of_ble_eq_true rfl, Nat.le_of_ble_eq_true rfl⟩ rfl rfl (Nat.le_of_ble_eq_true rfl) (Nat.le_of_ble_eq_true rfl) rfl rfl rfl (fun Qc qc => cB_fill pic_B (vp_in_nI (by omega) (by decide)) (by omega) qc) ?_
            rw [nI_clamp (by omega)]
            refine mx_eqs (hp' := pic (nI c) fil (upI (upI I 12 (upd (I 12) w x)) 13 (upd (I 13) w (nI ρ))) (upL L 14 (vp_updL (L 14) w (bFill (L 14 w) ρ)))) rfl rfl rfl rfl ?_
            refine mx_aload_n dA_wire_88 rfl ?_
            refine mx_get 0 7 dA_wire_89 fgA_57 rfl rfl ?_
            refine mx_aload_n dA_wire_92 rfl ?_
            refine mx_get 0 1 dA_wire_93 fgA_19 rfl rfl ?_
            refine mx_V1 (R' := (mR 2 81)) [_] _ dA_wire_96 rfl mT_G jC_begin_ok jC_begin_v lkA_79 ⟨rfl, rfl, Nat.le_of_ble_eq_true rfl, Nat.le_of_ble_eq_true rfl⟩ rfl rfl (Nat.le_of_ble_eq_true rfl) (Nat.le_of_ble_eq_true rfl) rfl rfl rfl (fun Qc qc => cC_begin (bs := 24) (kv0 := 25) (kl := 65) (kv := 66) (kl2 := 13) (kv2 := 14) rfl pic_S pic_B (by decide) (by decide) qc) ?_
            rw [pic_beg]
            refine mx_vret dA_wire_99 rfl ?_
            exact hQ2
          · refine mx_throw 0 dA_wire_58 dA_wire_61 dA_wire_62 dA_wire_65 mT_G (mT_2 (i := 25) rfl rfl) (mT_2 (i := 26) rfl rfl) (mT_1 (i := 13) rfl rfl) (by decide +kernel) (tw_of tw_67) (Nat.le_of_ble_eq_true rfl) (Nat.le_of_ble_eq_true rfl) (Nat.le_refl _) (Nat.le_refl _) ?_
            have e : aWire c fil I L x s y r = (.inr 0, pic (nI c) fil I L) := by
              unfold aWire
              (repeat' split) <;> first | rfl | contradiction
            rw [e] at hQ
            exact hQ
    · refine mx_throw 2 dA_wire_22 dA_wire_25 dA_wire_26 dA_wire_29 mT_G (mT_2 (i := 127) rfl rfl) (mT_2 (i := 128) rfl rfl) (mT_1 (i := 16) rfl rfl) (by decide +kernel) (tw_of tw_89) (Nat.le_of_ble_eq_true rfl) (Nat.le_of_ble_eq_true rfl) (Nat.le_refl _) (Nat.le_refl _) ?_
      have e : aWire c fil I L x s y r = (.inr 2, pic (nI c) fil I L) := by
        unfold aWire
        (repeat' split) <;> first | rfl | contradiction
      rw [e] at hQ
      exact hQ
def aHold (c : Nat) (fil : Int32) (I : Nat → Nat → Int32) (L : Nat → Nat → Int64) (x y r v : Int32) : aR := match aRw c I x y r with
  | none => (.inr 2, pic (nI c) fil I L)
  | some w => if ¬ aVal v = 0 then (.inl none, pic (nI c) fil (begI I) (begL (upL L 14 (vp_updL (L 14) w (bWr (L 14 w) r v))))) else (.inr 0, pic (nI c) fil I L)
theorem cA_hold {c : Nat} {fil : Int32} {I : Nat → Nat → Int32} {L : Nat → Nat → Int64} {Q : mx_O → List va_E → Prop} (hc : c ≤ 12) {x y r v : Int32} (hQ : Q (aHold c fil I L x y r v).1 (aHold c fil I L x y r v).2) : mx_W mx_K mT mCl jA_hold (mRT 8 139) 0 [.ref 0, .int x, .int y, .int r, .int v, .retAddr 0] [] (pic (nI c) fil I L) Q := by
  unfold aHold at hQ
  cases e : aRw c I x y r with
  | none =>
    rw [e] at hQ
    refine mx_aload_n dA_hold_0 rfl ?_
    refine mx_iload_n dA_hold_1 rfl ?_
    refine mx_iload_n dA_hold_2 rfl ?_
    refine mx_iload_n dA_hold_3 rfl ?_
    refine mx_VT1 (R' := (mRT 7 115)) [_, _, _] _ dA_hold_4 rfl mT_G jA_registerWire_ok jA_registerWire_v (mT_2 (i := 167) rfl rfl) ⟨Nat.le_of_ble_eq_true rfl, Nat.le_of_ble_eq_true rfl, Nat.le_of_ble_eq_true rfl, Nat.le_of_ble_eq_true rfl⟩ rfl rfl (Nat.le_of_ble_eq_true rfl) (Nat.le_of_ble_eq_true rfl) rfl rfl rfl (fun Qc qc => cA_registerWireT hc e qc) ?_
    exact hQ
  | some w =>
    rw [e] at hQ
    dsimp only at hQ
    have hw : w < 27 := by
      unfold aRw at e
      cases e2 : aWt c I x y with
      | none => rw [e2] at e; cases e
      | some u =>
        rw [e2] at e
        dsimp only at e
        have := (aWt_some hc e2).1
        split at e
        · cases e
        · split at e
          · cases e
          · cases e; exact this
    refine mx_aload_n dA_hold_0 rfl ?_
    refine mx_iload_n dA_hold_1 rfl ?_
    refine mx_iload_n dA_hold_2 rfl ?_
    refine mx_iload_n dA_hold_3 rfl ?_
    refine mx_V1 (R' := (mR 7 115)) [_, _, _] _ dA_hold_4 rfl mT_G jA_registerWire_ok jA_registerWire_v lkA_100 ⟨rfl, rfl, Nat.le_of_ble_eq_true rfl, Nat.le_of_ble_eq_true rfl⟩ rfl rfl (Nat.le_of_ble_eq_true rfl) (Nat.le_of_ble_eq_true rfl) rfl rfl rfl (fun Qc qc => cA_registerWire hc e qc) ?_
    refine mx_istore dA_hold_7 (Nat.le_of_ble_eq_true rfl) rfl ?_
    refine mx_iload dA_hold_9 rfl ?_
    refine mx_S1 (R' := (mR 0 0)) [_] _ dA_hold_11 rfl mT_G jA_isValue_ok jA_isValue_v lkA_104 ⟨rfl, rfl, Nat.le_of_ble_eq_true rfl, Nat.le_of_ble_eq_true rfl⟩ rfl rfl (Nat.le_of_ble_eq_true rfl) (Nat.le_of_ble_eq_true rfl) (fun Qc qc => cA_isValue qc) ?_
    refine mx_if_ne 25 dA_hold_14 rfl (fun h14 => ?_) (fun h14 => ?_)
    · refine mx_aload_n dA_hold_25 rfl ?_
      refine mx_get 0 1 dA_hold_26 fgA_19 rfl rfl ?_
      refine mx_iload dA_hold_29 rfl ?_
      refine mx_iload_n dA_hold_31 rfl ?_
      refine mx_iload dA_hold_32 rfl ?_
      refine mx_V1 (R' := (mR 0 0)) [_, _, _] _ dA_hold_34 rfl mT_G jB_write_ok jB_write_v lkA_107 ⟨rfl, rfl, Nat.le_of_ble_eq_true rfl, Nat.le_of_ble_eq_true rfl⟩ rfl rfl (Nat.le_of_ble_eq_true rfl) (Nat.le_of_ble_eq_true rfl) rfl rfl rfl (fun Qc qc => cB_write pic_B (vp_in_nI (by omega) (by decide)) qc) ?_
      rw [nI_clamp (by omega), pic_14]
      refine mx_aload_n dA_hold_37 rfl ?_
      refine mx_get 0 7 dA_hold_38 fgA_57 rfl rfl ?_
      refine mx_aload_n dA_hold_41 rfl ?_
      refine mx_get 0 1 dA_hold_42 fgA_19 rfl rfl ?_
      refine mx_V1 (R' := (mR 2 81)) [_] _ dA_hold_45 rfl mT_G jC_begin_ok jC_begin_v lkA_79 ⟨rfl, rfl, Nat.le_of_ble_eq_true rfl, Nat.le_of_ble_eq_true rfl⟩ rfl rfl (Nat.le_of_ble_eq_true rfl) (Nat.le_of_ble_eq_true rfl) rfl rfl rfl (fun Qc qc => cC_begin (bs := 24) (kv0 := 25) (kl := 65) (kv := 66) (kl2 := 13) (kv2 := 14) rfl pic_S pic_B (by decide) (by decide) qc) ?_
      rw [pic_beg]
      refine mx_vret dA_hold_48 rfl ?_
      rw [if_pos h14] at hQ
      exact hQ
    · refine mx_throw 0 dA_hold_17 dA_hold_20 dA_hold_21 dA_hold_24 mT_G (mT_2 (i := 25) rfl rfl) (mT_2 (i := 26) rfl rfl) (mT_1 (i := 13) rfl rfl) (by decide +kernel) (tw_of tw_67) (Nat.le_of_ble_eq_true rfl) (Nat.le_of_ble_eq_true rfl) (Nat.le_refl _) (Nat.le_refl _) ?_
      rw [if_neg (fun z => z h14)] at hQ
      exact hQ
theorem aRw_lt {c : Nat} {I : Nat → Nat → Int32} {x y r : Int32} {w : Nat} (hc : c ≤ 12) (e : aRw c I x y r = some w) : w < 27 := by
  unfold aRw at e
  cases e2 : aWt c I x y with
  | none => rw [e2] at e; cases e
  | some u =>
    rw [e2] at e
    dsimp only at e
    have := (aWt_some hc e2).1
    split at e
    · cases e
    · split at e
      · cases e
      · cases e; exact this
def aHeld (c : Nat) (fil : Int32) (I : Nat → Nat → Int32) (L : Nat → Nat → Int64) (x y r : Int32) : aR := match aRw c I x y r with
  | none => (.inr 2, pic (nI c) fil I L)
  | some w => (.inl (some (.int (bRd (L 14 w) r))), pic (nI c) fil I L)
def aRegs (c : Nat) (fil : Int32) (I : Nat → Nat → Int32) (L : Nat → Nat → Int64) (x y : Int32) : aR := match aWt c I x y with
  | none => (.inr 2, pic (nI c) fil I L)
  | some w => (.inl (some (.int (I 13 w))), pic (nI c) fil I L)
theorem cA_held {c : Nat} {fil : Int32} {I : Nat → Nat → Int32} {L : Nat → Nat → Int64} {Q : mx_O → List va_E → Prop} (hc : c ≤ 12) {x y r : Int32} (hQ : Q (aHeld c fil I L x y r).1 (aHeld c fil I L x y r).2) : mx_W mx_K mT mCl jA_held (mRT 8 139) 0 [.ref 0, .int x, .int y, .int r] [] (pic (nI c) fil I L) Q := by
  unfold aHeld at hQ
  cases e : aRw c I x y r with
  | none =>
    rw [e] at hQ
    refine mx_aload_n dA_held_0 rfl ?_
    refine mx_get 0 1 dA_held_1 fgA_19 rfl rfl ?_
    refine mx_aload_n dA_held_4 rfl ?_
    refine mx_iload_n dA_held_5 rfl ?_
    refine mx_iload_n dA_held_6 rfl ?_
    refine mx_iload_n dA_held_7 rfl ?_
    refine mx_VT1 (R' := (mRT 7 115)) [_, _, _] _ dA_held_8 rfl mT_G jA_registerWire_ok jA_registerWire_v (mT_2 (i := 167) rfl rfl) ⟨Nat.le_of_ble_eq_true rfl, Nat.le_of_ble_eq_true rfl, Nat.le_of_ble_eq_true rfl, Nat.le_of_ble_eq_true rfl⟩ rfl rfl (Nat.le_of_ble_eq_true rfl) (Nat.le_of_ble_eq_true rfl) rfl rfl rfl (fun Qc qc => cA_registerWireT hc e qc) ?_
    exact hQ
  | some w =>
    rw [e] at hQ
    have hw : w < 27 := aRw_lt hc e
    refine mx_aload_n dA_held_0 rfl ?_
    refine mx_get 0 1 dA_held_1 fgA_19 rfl rfl ?_
    refine mx_aload_n dA_held_4 rfl ?_
    refine mx_iload_n dA_held_5 rfl ?_
    refine mx_iload_n dA_held_6 rfl ?_
    refine mx_iload_n dA_held_7 rfl ?_
    refine mx_V1 (R' := (mR 7 115)) [_, _, _] _ dA_held_8 rfl mT_G jA_registerWire_ok jA_registerWire_v lkA_100 ⟨rfl, rfl, Nat.le_of_ble_eq_true rfl, Nat.le_of_ble_eq_true rfl⟩ rfl rfl (Nat.le_of_ble_eq_true rfl) (Nat.le_of_ble_eq_true rfl) rfl rfl rfl (fun Qc qc => cA_registerWire hc e qc) ?_
    refine mx_iload_n dA_held_11 rfl ?_
    refine mx_V1 (R' := (mR 0 0)) [_, _] _ dA_held_12 rfl mT_G jB_read_ok jB_read_v lkA_111 ⟨rfl, rfl, Nat.le_of_ble_eq_true rfl, Nat.le_of_ble_eq_true rfl⟩ rfl rfl (Nat.le_of_ble_eq_true rfl) (Nat.le_of_ble_eq_true rfl) rfl rfl rfl (fun Qc qc => cB_read pic_B (vp_in_nI (by omega) (by decide)) qc) ?_
    rw [nI_clamp (by omega)]
    refine mx_iret dA_held_15 rfl rfl ?_
    exact hQ
theorem cA_registers {c : Nat} {fil : Int32} {I : Nat → Nat → Int32} {L : Nat → Nat → Int64} {Q : mx_O → List va_E → Prop} (hc : c ≤ 12) {x y : Int32} (hQ : Q (aRegs c fil I L x y).1 (aRegs c fil I L x y).2) : mx_W mx_K mT mCl jA_registers (mRT 7 115) 0 [.ref 0, .int x, .int y] [] (pic (nI c) fil I L) Q := by
  unfold aRegs at hQ
  cases e : aWt c I x y with
  | none =>
    rw [e] at hQ
    refine mx_aload_n dA_registers_0 rfl ?_
    refine mx_get 0 1 dA_registers_1 fgA_19 rfl rfl ?_
    refine mx_aload_n dA_registers_4 rfl ?_
    refine mx_iload_n dA_registers_5 rfl ?_
    refine mx_iload_n dA_registers_6 rfl ?_
    refine mx_VT1 (R' := (mRT 6 92)) [_, _] _ dA_registers_7 rfl mT_G jA_wireTo_ok jA_wireTo_v (mT_2 (i := 171) rfl rfl) ⟨Nat.le_of_ble_eq_true rfl, Nat.le_of_ble_eq_true rfl, Nat.le_of_ble_eq_true rfl, Nat.le_of_ble_eq_true rfl⟩ rfl rfl (Nat.le_of_ble_eq_true rfl) (Nat.le_of_ble_eq_true rfl) rfl rfl rfl (fun Qc qc => cA_wireToT hc e qc) ?_
    exact hQ
  | some w =>
    rw [e] at hQ
    have hw : w < 27 := (aWt_some hc e).1
    refine mx_aload_n dA_registers_0 rfl ?_
    refine mx_get 0 1 dA_registers_1 fgA_19 rfl rfl ?_
    refine mx_aload_n dA_registers_4 rfl ?_
    refine mx_iload_n dA_registers_5 rfl ?_
    refine mx_iload_n dA_registers_6 rfl ?_
    refine mx_V1 (R' := (mR 6 92)) [_, _] _ dA_registers_7 rfl mT_G jA_wireTo_ok jA_wireTo_v lkA_114 ⟨rfl, rfl, Nat.le_of_ble_eq_true rfl, Nat.le_of_ble_eq_true rfl⟩ rfl rfl (Nat.le_of_ble_eq_true rfl) (Nat.le_of_ble_eq_true rfl) rfl rfl rfl (fun Qc qc => cA_wireTo hc e qc) ?_
    refine mx_V1 (R' := (mR 0 0)) [_] _ dA_registers_10 rfl mT_G jB_length_ok jB_length_v lkA_117 ⟨rfl, rfl, Nat.le_of_ble_eq_true rfl, Nat.le_of_ble_eq_true rfl⟩ rfl rfl (Nat.le_of_ble_eq_true rfl) (Nat.le_of_ble_eq_true rfl) rfl rfl rfl (fun Qc qc => cB_length pic_B (vp_in_nI (by omega) (by decide)) qc) ?_
    rw [nI_clamp (by omega)]
    refine mx_iret dA_registers_13 rfl rfl ?_
    exact hQ
def aLabel (c : Nat) (fil : Int32) (I : Nat → Nat → Int32) (L : Nat → Nat → Int64) (x : Int32) : aR := if qP_hasGate (nI c) x = 0 then (.inr 2, pic (nI c) fil I L) else (.inl (some (.int (I 9 x.toNatClampNeg))), pic (nI c) fil I L)
theorem cA_label {c : Nat} {fil : Int32} {I : Nat → Nat → Int32} {L : Nat → Nat → Int64} {Q : mx_O → List va_E → Prop} (hc : c ≤ 12) {x : Int32} (hQ : Q (aLabel c fil I L x).1 (aLabel c fil I L x).2) : mx_W mx_K mT mCl jA_label (mRT 7 113) 0 [.ref 0, .int x] [] (pic (nI c) fil I L) Q := by
  unfold aLabel at hQ
  by_cases e : qP_hasGate (nI c) x = 0
  · rw [if_pos e] at hQ
    refine mx_aload_n dA_label_0 rfl ?_
    refine mx_iload_n dA_label_1 rfl ?_
    refine mx_VT1 (R' := (mRT 6 92)) [_] _ dA_label_2 rfl mT_G jA_needGate_ok jA_needGate_v (mT_3 (i := 19) rfl rfl) ⟨Nat.le_of_ble_eq_true rfl, Nat.le_of_ble_eq_true rfl, Nat.le_of_ble_eq_true rfl, Nat.le_of_ble_eq_true rfl⟩ rfl rfl (Nat.le_of_ble_eq_true rfl) (Nat.le_of_ble_eq_true rfl) rfl rfl rfl (fun Qc qc => cA_needGateT e qc) ?_
    exact hQ
  · rw [if_neg e] at hQ
    obtain ⟨u, u1, u2, rfl⟩ := hasG hc e
    refine mx_aload_n dA_label_0 rfl ?_
    refine mx_iload_n dA_label_1 rfl ?_
    refine mx_V1 (R' := (mR 6 92)) [_] _ dA_label_2 rfl mT_G jA_needGate_ok jA_needGate_v lkA_135 ⟨rfl, rfl, Nat.le_of_ble_eq_true rfl, Nat.le_of_ble_eq_true rfl⟩ rfl rfl (Nat.le_of_ble_eq_true rfl) (Nat.le_of_ble_eq_true rfl) rfl rfl rfl (fun Qc qc => cA_needGate e qc) ?_
    refine mx_aload_n dA_label_5 rfl ?_
    refine mx_get 0 8 dA_label_6 fgA_61 rfl rfl ?_
    refine mx_iload_n dA_label_9 rfl ?_
    refine mx_iald dA_label_10 rfl (vp_in_nI (by omega) (by decide)) ?_
    refine mx_iret dA_label_11 rfl rfl ?_
    exact hQ
def aI2 (c : Nat) (I : Nat → Nat → Int32) : Nat → Nat → Int32 := hMeas c (oI c I)
def aPer (c : Nat) (fil : Int32) (I : Nat → Nat → Int32) (L : Nat → Nat → Int64) : aR := if sndB c I = true then (.inl (some (.int (hLu c (aI2 c I)))), pic (nI c) (nI c) (aI2 c I) L) else (.inr 3, sndH c fil I L)
def aMat (o : Nat) (c : Nat) (fil : Int32) (I : Nat → Nat → Int32) (L : Nat → Nat → Int64) (x y : Int32) : aR := if qP_hasGate (nI c) x = 0 then (.inr 2, pic (nI c) fil I L) else if qP_hasGate (nI c) y = 0 then (.inr 2, pic (nI c) fil I L) else if sndB c I = true then (.inl (some (.int (aI2 c I (o + x.toNatClampNeg) y.toNatClampNeg))), pic (nI c) (nI c) (aI2 c I) L) else (.inr 3, sndH c fil I L)
theorem cA_period {c : Nat} {fil : Int32} {I : Nat → Nat → Int32} {L : Nat → Nat → Int64} {Q : mx_O → List va_E → Prop} (hc : c ≤ 12) (hsr : ∀ w, w < 27 → I 12 w ≤ 12) (hQ : Q (aPer c fil I L).1 (aPer c fil I L).2) : mx_W mx_K mT mCl jA_period (mRT 7 156) 0 [.ref 0] [] (pic (nI c) fil I L) Q := by
  unfold aPer at hQ
  cases e : sndB c I with
  | false =>
    rw [e] at hQ
    refine mx_aload_n dA_period_0 rfl ?_
    refine mx_VT1 (R' := (mRT 6 136)) [] _ dA_period_1 rfl mT_G jA_needSound_ok jA_needSound_v (mT_2 (i := 206) rfl rfl) ⟨Nat.le_of_ble_eq_true rfl, Nat.le_of_ble_eq_true rfl, Nat.le_of_ble_eq_true rfl, Nat.le_of_ble_eq_true rfl⟩ rfl rfl (Nat.le_of_ble_eq_true rfl) (Nat.le_of_ble_eq_true rfl) rfl rfl rfl (fun Qc qc => cA_needSoundT hc hsr e qc) ?_
    exact hQ
  | true =>
    rw [e] at hQ
    refine mx_aload_n dA_period_0 rfl ?_
    refine mx_V1 (R' := (mR 6 136)) [] _ dA_period_1 rfl mT_G jA_needSound_ok jA_needSound_v lkA_125 ⟨rfl, rfl, Nat.le_of_ble_eq_true rfl, Nat.le_of_ble_eq_true rfl⟩ rfl rfl (Nat.le_of_ble_eq_true rfl) (Nat.le_of_ble_eq_true rfl) rfl rfl rfl (fun Qc qc => cA_needSound hc hsr e qc) ?_
    refine mx_aload_n dA_period_4 rfl ?_
    refine mx_get 0 4 dA_period_5 fgA_36 rfl rfl ?_
    refine mx_aload_n dA_period_8 rfl ?_
    refine mx_get 0 0 dA_period_9 fgA_12 rfl rfl ?_
    refine mx_aload_n dA_period_12 rfl ?_
    refine mx_get 0 1 dA_period_13 fgA_19 rfl rfl ?_
    refine mx_V1 (R' := (mR 3 70)) [_, _] _ dA_period_16 rfl mT_G jH_measure_ok jH_measure_v lkA_128 ⟨rfl, rfl, Nat.le_of_ble_eq_true rfl, Nat.le_of_ble_eq_true rfl⟩ rfl rfl (Nat.le_of_ble_eq_true rfl) (Nat.le_of_ble_eq_true rfl) rfl rfl rfl (fun Qc qc => cH_measure (I := oI c I) hc hsr qc) ?_
    refine mx_aload_n dA_period_19 rfl ?_
    refine mx_get 0 4 dA_period_20 fgA_36 rfl rfl ?_
    refine mx_aload_n dA_period_23 rfl ?_
    refine mx_get 0 0 dA_period_24 fgA_12 rfl rfl ?_
    refine mx_get 1 0 dA_period_27 fgA_68 rfl rfl ?_
    refine mx_V1 (R' := (mR 1 24)) [_] _ dA_period_30 rfl mT_G jH_longestUnregistered_ok jH_longestUnregistered_v lkA_132 ⟨rfl, rfl, Nat.le_of_ble_eq_true rfl, Nat.le_of_ble_eq_true rfl⟩ rfl rfl (Nat.le_of_ble_eq_true rfl) (Nat.le_of_ble_eq_true rfl) rfl rfl rfl (fun Qc qc => cH_longestUnregistered hc qc) ?_
    refine mx_iret dA_period_33 rfl rfl ?_
    exact hQ
theorem cA_weight {c : Nat} {fil : Int32} {I : Nat → Nat → Int32} {L : Nat → Nat → Int64} {Q : mx_O → List va_E → Prop} (hc : c ≤ 12) (hsr : ∀ w, w < 27 → I 12 w ≤ 12) {x y : Int32} (hQ : Q (aMat 26 c fil I L x y).1 (aMat 26 c fil I L x y).2) : mx_W mx_K mT mCl jA_weight (mRT 7 156) 0 [.ref 0, .int x, .int y] [] (pic (nI c) fil I L) Q := by
  unfold aMat at hQ
  by_cases e1 : qP_hasGate (nI c) x = 0
  · rw [if_pos e1] at hQ
    refine mx_aload_n dA_weight_0 rfl ?_
    refine mx_iload_n dA_weight_1 rfl ?_
    refine mx_VT1 (R' := (mRT 6 92)) [_] _ dA_weight_2 rfl mT_G jA_needGate_ok jA_needGate_v (mT_3 (i := 19) rfl rfl) ⟨Nat.le_of_ble_eq_true rfl, Nat.le_of_ble_eq_true rfl, Nat.le_of_ble_eq_true rfl, Nat.le_of_ble_eq_true rfl⟩ rfl rfl (Nat.le_of_ble_eq_true rfl) (Nat.le_of_ble_eq_true rfl) rfl rfl rfl (fun Qc qc => cA_needGateT e1 qc) ?_
    exact hQ
  by_cases e2 : qP_hasGate (nI c) y = 0
  · rw [if_neg e1, if_pos e2] at hQ
    refine mx_aload_n dA_weight_0 rfl ?_
    refine mx_iload_n dA_weight_1 rfl ?_
    refine mx_V1 (R' := (mR 6 92)) [_] _ dA_weight_2 rfl mT_G jA_needGate_ok jA_needGate_v lkA_135 ⟨rfl, rfl, Nat.le_of_ble_eq_true rfl, Nat.le_of_ble_eq_true rfl⟩ rfl rfl (Nat.le_of_ble_eq_true rfl) (Nat.le_of_ble_eq_true rfl) rfl rfl rfl (fun Qc qc => cA_needGate e1 qc) ?_
    refine mx_aload_n dA_weight_5 rfl ?_
    refine mx_iload_n dA_weight_6 rfl ?_
    refine mx_VT1 (R' := (mRT 6 92)) [_] _ dA_weight_7 rfl mT_G jA_needGate_ok jA_needGate_v (mT_3 (i := 19) rfl rfl) ⟨Nat.le_of_ble_eq_true rfl, Nat.le_of_ble_eq_true rfl, Nat.le_of_ble_eq_true rfl, Nat.le_of_ble_eq_true rfl⟩ rfl rfl (Nat.le_of_ble_eq_true rfl) (Nat.le_of_ble_eq_true rfl) rfl rfl rfl (fun Qc qc => cA_needGateT e2 qc) ?_
    exact hQ
  rw [if_neg e1, if_neg e2] at hQ
  cases e : sndB c I with
  | false =>
    rw [e] at hQ
    refine mx_aload_n dA_weight_0 rfl ?_
    refine mx_iload_n dA_weight_1 rfl ?_
    refine mx_V1 (R' := (mR 6 92)) [_] _ dA_weight_2 rfl mT_G jA_needGate_ok jA_needGate_v lkA_135 ⟨rfl, rfl, Nat.le_of_ble_eq_true rfl, Nat.le_of_ble_eq_true rfl⟩ rfl rfl (Nat.le_of_ble_eq_true rfl) (Nat.le_of_ble_eq_true rfl) rfl rfl rfl (fun Qc qc => cA_needGate e1 qc) ?_
    refine mx_aload_n dA_weight_5 rfl ?_
    refine mx_iload_n dA_weight_6 rfl ?_
    refine mx_V1 (R' := (mR 6 92)) [_] _ dA_weight_7 rfl mT_G jA_needGate_ok jA_needGate_v lkA_135 ⟨rfl, rfl, Nat.le_of_ble_eq_true rfl, Nat.le_of_ble_eq_true rfl⟩ rfl rfl (Nat.le_of_ble_eq_true rfl) (Nat.le_of_ble_eq_true rfl) rfl rfl rfl (fun Qc qc => cA_needGate e2 qc) ?_
    refine mx_aload_n dA_weight_10 rfl ?_
    refine mx_VT1 (R' := (mRT 6 136)) [] _ dA_weight_11 rfl mT_G jA_needSound_ok jA_needSound_v (mT_2 (i := 206) rfl rfl) ⟨Nat.le_of_ble_eq_true rfl, Nat.le_of_ble_eq_true rfl, Nat.le_of_ble_eq_true rfl, Nat.le_of_ble_eq_true rfl⟩ rfl rfl (Nat.le_of_ble_eq_true rfl) (Nat.le_of_ble_eq_true rfl) rfl rfl rfl (fun Qc qc => cA_needSoundT hc hsr e qc) ?_
    exact hQ
  | true =>
    rw [e] at hQ
    obtain ⟨u, u1, u2, rfl⟩ := hasG hc e1
    obtain ⟨v, v1, v2, rfl⟩ := hasG hc e2
    rw [nI_clamp (by omega)] at hQ
    refine mx_aload_n dA_weight_0 rfl ?_
    refine mx_iload_n dA_weight_1 rfl ?_
    refine mx_V1 (R' := (mR 6 92)) [_] _ dA_weight_2 rfl mT_G jA_needGate_ok jA_needGate_v lkA_135 ⟨rfl, rfl, Nat.le_of_ble_eq_true rfl, Nat.le_of_ble_eq_true rfl⟩ rfl rfl (Nat.le_of_ble_eq_true rfl) (Nat.le_of_ble_eq_true rfl) rfl rfl rfl (fun Qc qc => cA_needGate e1 qc) ?_
    refine mx_aload_n dA_weight_5 rfl ?_
    refine mx_iload_n dA_weight_6 rfl ?_
    refine mx_V1 (R' := (mR 6 92)) [_] _ dA_weight_7 rfl mT_G jA_needGate_ok jA_needGate_v lkA_135 ⟨rfl, rfl, Nat.le_of_ble_eq_true rfl, Nat.le_of_ble_eq_true rfl⟩ rfl rfl (Nat.le_of_ble_eq_true rfl) (Nat.le_of_ble_eq_true rfl) rfl rfl rfl (fun Qc qc => cA_needGate e2 qc) ?_
    refine mx_aload_n dA_weight_10 rfl ?_
    refine mx_V1 (R' := (mR 6 136)) [] _ dA_weight_11 rfl mT_G jA_needSound_ok jA_needSound_v lkA_125 ⟨rfl, rfl, Nat.le_of_ble_eq_true rfl, Nat.le_of_ble_eq_true rfl⟩ rfl rfl (Nat.le_of_ble_eq_true rfl) (Nat.le_of_ble_eq_true rfl) rfl rfl rfl (fun Qc qc => cA_needSound hc hsr e qc) ?_
    refine mx_aload_n dA_weight_14 rfl ?_
    refine mx_get 0 4 dA_weight_15 fgA_36 rfl rfl ?_
    refine mx_aload_n dA_weight_18 rfl ?_
    refine mx_get 0 0 dA_weight_19 fgA_12 rfl rfl ?_
    refine mx_aload_n dA_weight_22 rfl ?_
    refine mx_get 0 1 dA_weight_23 fgA_19 rfl rfl ?_
    refine mx_V1 (R' := (mR 3 70)) [_, _] _ dA_weight_26 rfl mT_G jH_measure_ok jH_measure_v lkA_128 ⟨rfl, rfl, Nat.le_of_ble_eq_true rfl, Nat.le_of_ble_eq_true rfl⟩ rfl rfl (Nat.le_of_ble_eq_true rfl) (Nat.le_of_ble_eq_true rfl) rfl rfl rfl (fun Qc qc => cH_measure (I := oI c I) hc hsr qc) ?_
    refine mx_aload_n dA_weight_29 rfl ?_
    refine mx_get 0 4 dA_weight_30 fgA_36 rfl rfl ?_
    refine mx_get 4 0 dA_weight_33 fgA_139 rfl rfl ?_
    refine mx_iload_n dA_weight_36 rfl ?_
    refine mx_aald dA_weight_37 rfl (vp_in_nI (by omega) (by decide)) (eg_at (by omega)) ?_
    refine mx_iload_n dA_weight_38 rfl ?_
    refine mx_iald dA_weight_39 (pic_row (by omega) (by omega)) (vp_in_nI (by omega) (by decide)) ?_
    refine mx_iret dA_weight_40 rfl rfl ?_
    exact hQ
theorem cA_delay {c : Nat} {fil : Int32} {I : Nat → Nat → Int32} {L : Nat → Nat → Int64} {Q : mx_O → List va_E → Prop} (hc : c ≤ 12) (hsr : ∀ w, w < 27 → I 12 w ≤ 12) {x y : Int32} (hQ : Q (aMat 39 c fil I L x y).1 (aMat 39 c fil I L x y).2) : mx_W mx_K mT mCl jA_delay (mRT 7 156) 0 [.ref 0, .int x, .int y] [] (pic (nI c) fil I L) Q := by
  unfold aMat at hQ
  by_cases e1 : qP_hasGate (nI c) x = 0
  · rw [if_pos e1] at hQ
    refine mx_aload_n dA_delay_0 rfl ?_
    refine mx_iload_n dA_delay_1 rfl ?_
    refine mx_VT1 (R' := (mRT 6 92)) [_] _ dA_delay_2 rfl mT_G jA_needGate_ok jA_needGate_v (mT_3 (i := 19) rfl rfl) ⟨Nat.le_of_ble_eq_true rfl, Nat.le_of_ble_eq_true rfl, Nat.le_of_ble_eq_true rfl, Nat.le_of_ble_eq_true rfl⟩ rfl rfl (Nat.le_of_ble_eq_true rfl) (Nat.le_of_ble_eq_true rfl) rfl rfl rfl (fun Qc qc => cA_needGateT e1 qc) ?_
    exact hQ
  by_cases e2 : qP_hasGate (nI c) y = 0
  · rw [if_neg e1, if_pos e2] at hQ
    refine mx_aload_n dA_delay_0 rfl ?_
    refine mx_iload_n dA_delay_1 rfl ?_
    refine mx_V1 (R' := (mR 6 92)) [_] _ dA_delay_2 rfl mT_G jA_needGate_ok jA_needGate_v lkA_135 ⟨rfl, rfl, Nat.le_of_ble_eq_true rfl, Nat.le_of_ble_eq_true rfl⟩ rfl rfl (Nat.le_of_ble_eq_true rfl) (Nat.le_of_ble_eq_true rfl) rfl rfl rfl (fun Qc qc => cA_needGate e1 qc) ?_
    refine mx_aload_n dA_delay_5 rfl ?_
    refine mx_iload_n dA_delay_6 rfl ?_
    refine mx_VT1 (R' := (mRT 6 92)) [_] _ dA_delay_7 rfl mT_G jA_needGate_ok jA_needGate_v (mT_3 (i := 19) rfl rfl) ⟨Nat.le_of_ble_eq_true rfl, Nat.le_of_ble_eq_true rfl, Nat.le_of_ble_eq_true rfl, Nat.le_of_ble_eq_true rfl⟩ rfl rfl (Nat.le_of_ble_eq_true rfl) (Nat.le_of_ble_eq_true rfl) rfl rfl rfl (fun Qc qc => cA_needGateT e2 qc) ?_
    exact hQ
  rw [if_neg e1, if_neg e2] at hQ
  cases e : sndB c I with
  | false =>
    rw [e] at hQ
    refine mx_aload_n dA_delay_0 rfl ?_
    refine mx_iload_n dA_delay_1 rfl ?_
    refine mx_V1 (R' := (mR 6 92)) [_] _ dA_delay_2 rfl mT_G jA_needGate_ok jA_needGate_v lkA_135 ⟨rfl, rfl, Nat.le_of_ble_eq_true rfl, Nat.le_of_ble_eq_true rfl⟩ rfl rfl (Nat.le_of_ble_eq_true rfl) (Nat.le_of_ble_eq_true rfl) rfl rfl rfl (fun Qc qc => cA_needGate e1 qc) ?_
    refine mx_aload_n dA_delay_5 rfl ?_
    refine mx_iload_n dA_delay_6 rfl ?_
    refine mx_V1 (R' := (mR 6 92)) [_] _ dA_delay_7 rfl mT_G jA_needGate_ok jA_needGate_v lkA_135 ⟨rfl, rfl, Nat.le_of_ble_eq_true rfl, Nat.le_of_ble_eq_true rfl⟩ rfl rfl (Nat.le_of_ble_eq_true rfl) (Nat.le_of_ble_eq_true rfl) rfl rfl rfl (fun Qc qc => cA_needGate e2 qc) ?_
    refine mx_aload_n dA_delay_10 rfl ?_
    refine mx_VT1 (R' := (mRT 6 136)) [] _ dA_delay_11 rfl mT_G jA_needSound_ok jA_needSound_v (mT_2 (i := 206) rfl rfl) ⟨Nat.le_of_ble_eq_true rfl, Nat.le_of_ble_eq_true rfl, Nat.le_of_ble_eq_true rfl, Nat.le_of_ble_eq_true rfl⟩ rfl rfl (Nat.le_of_ble_eq_true rfl) (Nat.le_of_ble_eq_true rfl) rfl rfl rfl (fun Qc qc => cA_needSoundT hc hsr e qc) ?_
    exact hQ
  | true =>
    rw [e] at hQ
    obtain ⟨u, u1, u2, rfl⟩ := hasG hc e1
    obtain ⟨v, v1, v2, rfl⟩ := hasG hc e2
    rw [nI_clamp (by omega)] at hQ
    refine mx_aload_n dA_delay_0 rfl ?_
    refine mx_iload_n dA_delay_1 rfl ?_
    refine mx_V1 (R' := (mR 6 92)) [_] _ dA_delay_2 rfl mT_G jA_needGate_ok jA_needGate_v lkA_135 ⟨rfl, rfl, Nat.le_of_ble_eq_true rfl, Nat.le_of_ble_eq_true rfl⟩ rfl rfl (Nat.le_of_ble_eq_true rfl) (Nat.le_of_ble_eq_true rfl) rfl rfl rfl (fun Qc qc => cA_needGate e1 qc) ?_
    refine mx_aload_n dA_delay_5 rfl ?_
    refine mx_iload_n dA_delay_6 rfl ?_
    refine mx_V1 (R' := (mR 6 92)) [_] _ dA_delay_7 rfl mT_G jA_needGate_ok jA_needGate_v lkA_135 ⟨rfl, rfl, Nat.le_of_ble_eq_true rfl, Nat.le_of_ble_eq_true rfl⟩ rfl rfl (Nat.le_of_ble_eq_true rfl) (Nat.le_of_ble_eq_true rfl) rfl rfl rfl (fun Qc qc => cA_needGate e2 qc) ?_
    refine mx_aload_n dA_delay_10 rfl ?_
    refine mx_V1 (R' := (mR 6 136)) [] _ dA_delay_11 rfl mT_G jA_needSound_ok jA_needSound_v lkA_125 ⟨rfl, rfl, Nat.le_of_ble_eq_true rfl, Nat.le_of_ble_eq_true rfl⟩ rfl rfl (Nat.le_of_ble_eq_true rfl) (Nat.le_of_ble_eq_true rfl) rfl rfl rfl (fun Qc qc => cA_needSound hc hsr e qc) ?_
    refine mx_aload_n dA_delay_14 rfl ?_
    refine mx_get 0 4 dA_delay_15 fgA_36 rfl rfl ?_
    refine mx_aload_n dA_delay_18 rfl ?_
    refine mx_get 0 0 dA_delay_19 fgA_12 rfl rfl ?_
    refine mx_aload_n dA_delay_22 rfl ?_
    refine mx_get 0 1 dA_delay_23 fgA_19 rfl rfl ?_
    refine mx_V1 (R' := (mR 3 70)) [_, _] _ dA_delay_26 rfl mT_G jH_measure_ok jH_measure_v lkA_128 ⟨rfl, rfl, Nat.le_of_ble_eq_true rfl, Nat.le_of_ble_eq_true rfl⟩ rfl rfl (Nat.le_of_ble_eq_true rfl) (Nat.le_of_ble_eq_true rfl) rfl rfl rfl (fun Qc qc => cH_measure (I := oI c I) hc hsr qc) ?_
    refine mx_aload_n dA_delay_29 rfl ?_
    refine mx_get 0 4 dA_delay_30 fgA_36 rfl rfl ?_
    refine mx_get 4 1 dA_delay_33 fgA_143 rfl rfl ?_
    refine mx_iload_n dA_delay_36 rfl ?_
    refine mx_aald dA_delay_37 rfl (vp_in_nI (by omega) (by decide)) (eg_at (by omega)) ?_
    refine mx_iload_n dA_delay_38 rfl ?_
    refine mx_iald dA_delay_39 (pic_row (by omega) (by omega)) (vp_in_nI (by omega) (by decide)) ?_
    refine mx_iret dA_delay_40 rfl rfl ?_
    exact hQ
