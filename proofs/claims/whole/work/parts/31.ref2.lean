/-! The reference: gate, wire, hold, held, registers, gates, label, restart, weightOf, delayOf. -/
/-- answer, thrown, count, cells -/
abbrev rR : Type := Int32 × Int32 × Nat × (Nat → Nat → Int32)
def rbeg (I : Nat → Nat → Int32) : Nat → Nat → Int32 := upI I 6 (I 5)
def rGate (c : Nat) (I : Nat → Nat → Int32) (x y : Int32) : rR := if x < 0 then (0, 1, c, I) else if 4 < x then (0, 1, c, I) else if y < 0 then (0, 1, c, I) else if ¬ y ≤ 50 then (0, 1, c, I) else if ¬ nI c = 12 then (nI (c + 1), 0, c + 1, rbeg (upI (upI I 1 (upd (I 1) (c + 1) x)) 2 (upd (I 2) (c + 1) y))) else (0, 2, c, I)
theorem cM_gate {c : Nat} {thr : Int32} {I : Nat → Nat → Int32} {Q : mx_O → List va_E → Prop} (hc : c ≤ 12) {x y : Int32} (hQ : Q (.inl (some (.int (rGate c I x y).1))) (rp (rGate c I x y).2.1 (nI (rGate c I x y).2.2.1) (rGate c I x y).2.2.2)) : mx_W mx_K mT mCl jM_gate (mR 1 21) 0 [.ref 0, .int x, .int y] [] (rp thr (nI c) I) Q := by
  refine mx_aload_n dM_gate_0 rfl ?_
  refine mx_iload_n dM_gate_1 rfl ?_
  refine mx_if_lt 20 dM_gate_2 rfl (fun h2 => ?_) (fun h2 => ?_)
  · refine mx_iconst (1) dM_gate_20 (by decide) ?_
    refine mx_goto 38 dM_gate_21 rfl ?_
    refine mx_put 8 0 (.int) dM_gate_38 fpM_49 rfl (Nat.le_of_ble_eq_true rfl) rfl rfl ?_
    refine mx_aload_n dM_gate_41 rfl ?_
    refine mx_get 8 0 dM_gate_42 fgM_49 rfl rfl ?_
    refine mx_if_eq 50 dM_gate_45 rfl (fun h45 => ?_) (fun h45 => ?_)
    · exact absurd h45 (by decide)
    refine mx_iconst (0) dM_gate_48 (by decide) ?_
    refine mx_iret dM_gate_49 rfl rfl ?_
    have e : rGate c I x y = (0, 1, c, I) := by
      unfold rGate
      (repeat' split) <;> first | rfl | contradiction
    rw [e] at hQ
    exact hQ
  · refine mx_iload_n dM_gate_5 rfl ?_
    refine mx_iconst (4) dM_gate_6 (by decide) ?_
    refine mx_icmp_gt 20 dM_gate_7 rfl (fun h7 => ?_) (fun h7 => ?_)
    · refine mx_iconst (1) dM_gate_20 (by decide) ?_
      refine mx_goto 38 dM_gate_21 rfl ?_
      refine mx_put 8 0 (.int) dM_gate_38 fpM_49 rfl (Nat.le_of_ble_eq_true rfl) rfl rfl ?_
      refine mx_aload_n dM_gate_41 rfl ?_
      refine mx_get 8 0 dM_gate_42 fgM_49 rfl rfl ?_
      refine mx_if_eq 50 dM_gate_45 rfl (fun h45 => ?_) (fun h45 => ?_)
      · exact absurd h45 (by decide)
      refine mx_iconst (0) dM_gate_48 (by decide) ?_
      refine mx_iret dM_gate_49 rfl rfl ?_
      have e : rGate c I x y = (0, 1, c, I) := by
        unfold rGate
        (repeat' split) <;> first | rfl | contradiction
      rw [e] at hQ
      exact hQ
    · refine mx_iload_n dM_gate_10 rfl ?_
      refine mx_if_lt 20 dM_gate_11 rfl (fun h11 => ?_) (fun h11 => ?_)
      · refine mx_iconst (1) dM_gate_20 (by decide) ?_
        refine mx_goto 38 dM_gate_21 rfl ?_
        refine mx_put 8 0 (.int) dM_gate_38 fpM_49 rfl (Nat.le_of_ble_eq_true rfl) rfl rfl ?_
        refine mx_aload_n dM_gate_41 rfl ?_
        refine mx_get 8 0 dM_gate_42 fgM_49 rfl rfl ?_
        refine mx_if_eq 50 dM_gate_45 rfl (fun h45 => ?_) (fun h45 => ?_)
        · exact absurd h45 (by decide)
        refine mx_iconst (0) dM_gate_48 (by decide) ?_
        refine mx_iret dM_gate_49 rfl rfl ?_
        have e : rGate c I x y = (0, 1, c, I) := by
          unfold rGate
          (repeat' split) <;> first | rfl | contradiction
        rw [e] at hQ
        exact hQ
      · refine mx_iload_n dM_gate_14 rfl ?_
        refine mx_bipush (50) dM_gate_15 (by decide) ?_
        refine mx_icmp_le 24 dM_gate_17 rfl (fun h17 => ?_) (fun h17 => ?_)
        · refine mx_aload_n dM_gate_24 rfl ?_
          refine mx_get 8 1 dM_gate_25 fgM_53 rfl rfl ?_
          refine mx_bipush (12) dM_gate_28 (by decide) ?_
          refine mx_icmp_ne 37 dM_gate_30 rfl (fun h30 => ?_) (fun h30 => ?_)
          · refine mx_iconst (0) dM_gate_37 (by decide) ?_
            refine mx_put 8 0 (.int) dM_gate_38 fpM_49 rfl (Nat.le_of_ble_eq_true rfl) rfl rfl ?_
            refine mx_aload_n dM_gate_41 rfl ?_
            refine mx_get 8 0 dM_gate_42 fgM_49 rfl rfl ?_
            refine mx_if_eq 50 dM_gate_45 rfl (fun h45 => ?_) (fun h45 => ?_)
            rotate_left
            · exact absurd rfl h45
            have hlt : c < 12 := by
              have : ¬ c = 12 := fun e => h30 (by rw [e]; rfl)
              omega
            refine mx_aload_n dM_gate_50 rfl ?_
            refine mx_dup dM_gate_51 rfl ?_
            refine mx_get 8 1 dM_gate_52 fgM_53 rfl rfl ?_
            refine mx_iconst (1) dM_gate_55 (by decide) ?_
            refine mx_iadd dM_gate_56 ?_
            refine mx_put 8 1 (.int) dM_gate_57 fpM_53 rfl (Nat.le_of_ble_eq_true rfl) rfl rfl ?_
            rw [nI_1]
            refine mx_eqs rfl rfl rfl (rp_cnt _) ?_
            refine mx_aload_n dM_gate_60 rfl ?_
            refine mx_get 8 2 dM_gate_61 fgM_7 rfl rfl ?_
            refine mx_aload_n dM_gate_64 rfl ?_
            refine mx_get 8 1 dM_gate_65 fgM_53 rfl rfl ?_
            refine mx_iload_n dM_gate_68 rfl ?_
            refine mx_iast dM_gate_69 rfl (vp_in_nI (by omega) (by decide)) ?_
            rw [nI_clamp (by omega)]
            refine mx_eqs rfl rfl rfl (rp_1 _) ?_
            refine mx_aload_n dM_gate_70 rfl ?_
            refine mx_get 8 3 dM_gate_71 fgM_13 rfl rfl ?_
            refine mx_aload_n dM_gate_74 rfl ?_
            refine mx_get 8 1 dM_gate_75 fgM_53 rfl rfl ?_
            refine mx_iload_n dM_gate_78 rfl ?_
            refine mx_iast dM_gate_79 rfl (vp_in_nI (by omega) (by decide)) ?_
            rw [nI_clamp (by omega)]
            refine mx_eqs rfl rfl rfl (rp_2 _) ?_
            refine mx_aload_n dM_gate_80 rfl ?_
            refine mx_V1 (R' := (mR 0 0)) [] _ dM_gate_81 rfl mT_G jM_begin_ok jM_begin_v lkM_67 ⟨rfl, rfl, Nat.le_of_ble_eq_true rfl, Nat.le_of_ble_eq_true rfl⟩ rfl rfl (Nat.le_of_ble_eq_true rfl) (Nat.le_of_ble_eq_true rfl) rfl rfl rfl (fun Qc qc => cM_begin qc) ?_
            refine mx_aload_n dM_gate_84 rfl ?_
            refine mx_get 8 1 dM_gate_85 fgM_53 rfl rfl ?_
            refine mx_iret dM_gate_88 rfl rfl ?_
            have e : rGate c I x y = (nI (c + 1), 0, c + 1, rbeg (upI (upI I 1 (upd (I 1) (c + 1) x)) 2 (upd (I 2) (c + 1) y))) := by
              unfold rGate
              (repeat' split) <;> first | rfl | contradiction
            rw [e] at hQ
            exact hQ
          · refine mx_iconst (2) dM_gate_33 (by decide) ?_
            refine mx_goto 38 dM_gate_34 rfl ?_
            refine mx_put 8 0 (.int) dM_gate_38 fpM_49 rfl (Nat.le_of_ble_eq_true rfl) rfl rfl ?_
            refine mx_aload_n dM_gate_41 rfl ?_
            refine mx_get 8 0 dM_gate_42 fgM_49 rfl rfl ?_
            refine mx_if_eq 50 dM_gate_45 rfl (fun h45 => ?_) (fun h45 => ?_)
            · exact absurd h45 (by decide)
            refine mx_iconst (0) dM_gate_48 (by decide) ?_
            refine mx_iret dM_gate_49 rfl rfl ?_
            have e : rGate c I x y = (0, 2, c, I) := by
              unfold rGate
              (repeat' split) <;> first | rfl | contradiction
            rw [e] at hQ
            exact hQ
        · refine mx_iconst (1) dM_gate_20 (by decide) ?_
          refine mx_goto 38 dM_gate_21 rfl ?_
          refine mx_put 8 0 (.int) dM_gate_38 fpM_49 rfl (Nat.le_of_ble_eq_true rfl) rfl rfl ?_
          refine mx_aload_n dM_gate_41 rfl ?_
          refine mx_get 8 0 dM_gate_42 fgM_49 rfl rfl ?_
          refine mx_if_eq 50 dM_gate_45 rfl (fun h45 => ?_) (fun h45 => ?_)
          · exact absurd h45 (by decide)
          refine mx_iconst (0) dM_gate_48 (by decide) ?_
          refine mx_iret dM_gate_49 rfl rfl ?_
          have e : rGate c I x y = (0, 1, c, I) := by
            unfold rGate
            (repeat' split) <;> first | rfl | contradiction
          rw [e] at hQ
          exact hQ
def vFill (w : Nat) (f : Nat → Int32) : Nat → Int32 := lp (fun k f => upd f (40 * w + k) 2) 40 f
def rWnew (I : Nat → Nat → Int32) (w : Nat) (x r : Int32) : Nat → Nat → Int32 := rbeg (upI (upI (upI I 3 (upd (I 3) w x)) 4 (upd (I 4) w r)) 5 (vFill w (I 5)))
def rEnd (cnt x : Int32) : Bool := if ¬ qP_hasGate cnt x = 0 then true else if qM_outer x = 0 then false else true
def rWire (c : Nat) (I : Nat → Nat → Int32) (x s y r : Int32) : Int32 × (Nat → Nat → Int32) := if (rEnd (nI c) x && rEnd (nI c) s) = true then (if qM_place (nI c) (I 1) s y < 0 then (2, I) else if r < 0 then (2, I) else if ¬ r ≤ 4 then (2, I) else (0, rWnew I (qM_place (nI c) (I 1) s y).toNatClampNeg x r)) else (1, I)
theorem qM_place_eq {c : Nat} {kd : Nat → Int32} {x y : Int32} (hc : c ≤ 12) : qM_place (nI c) kd x y = qP_placeOf (nI c) kd x y := by
  unfold qM_place qP_placeOf
  have hpt : qM_outer x = qP_isPort x := by
    unfold qM_outer qP_isPort
    (repeat' split) <;> first | rfl | contradiction
  rw [hpt]
  have hneg : ¬ 0 ≤ y ↔ y < 0 := by
    rw [Int32.le_iff_toInt_le, Int32.lt_iff_toInt_lt]
    show ¬ (0 : Int) ≤ y.toInt ↔ y.toInt < 0
    omega
  by_cases hg : qP_hasGate (nI c) x = 0
  · rw [if_pos hg, if_pos hg]
    by_cases h0 : 0 ≤ y
    · rw [if_pos h0]
    · rw [if_neg h0]
      by_cases h1 : qP_isPort x = 0
      · rw [if_pos h1]
      · rw [if_neg h1, if_pos (fun e => h0 (by rw [e]; decide))]
  · have hp0 : qP_isPort x = 0 := by
      obtain ⟨u, u1, u2, rfl⟩ := hasG hc hg
      unfold qP_isPort
      rw [if_neg, if_pos]
      · rw [Int32.lt_iff_toInt_lt, nI_toInt (by omega)]; show (-1 : Int) < u; omega
      · rw [Int32.lt_iff_toInt_lt, nI_toInt (by omega)]; show ¬ (u : Int) < -3; omega
    rw [if_pos hp0, if_neg hg, if_neg hg]
    have hm : 2 * x - 2 + y = qP_firstPin x + y := by
      obtain ⟨u, u1, u2, rfl⟩ := hasG hc hg
      rw [fp_nat u1, show (2 : Int32) = nI 2 from rfl, pk_mul, pk_sub (by omega)]
    rw [hm]
    by_cases h0 : 0 ≤ y
    · rw [if_pos h0, if_neg (fun e => (hneg.mpr e) h0)]
    · rw [if_neg h0, if_pos (hneg.mp h0)]
theorem place_neg {c : Nat} {kd : Nat → Int32} {x y : Int32} (hc : c ≤ 12) : (qM_place (nI c) kd x y < 0 ↔ qM_place (nI c) kd x y = -1) ∧ (¬ qM_place (nI c) kd x y < 0 → ∃ w, w < 27 ∧ qM_place (nI c) kd x y = nI w) := by
  rw [qM_place_eq hc]
  by_cases h : qP_placeOf (nI c) kd x y = -1
  · rw [h]
    exact ⟨⟨fun _ => rfl, fun _ => by decide⟩, fun e => absurd (by decide) e⟩
  · obtain ⟨w, hw, e⟩ := place_in hc h
    refine ⟨⟨fun e2 => ?_, fun e2 => absurd e2 h⟩, fun _ => ⟨w, hw, e⟩⟩
    rw [e] at e2
    exact absurd e2 (nI_pos (by omega))
theorem place_vp {c : Nat} {kd : Nat → Int32} {x y : Int32} (hc : c ≤ 12) : ¬ qM_place (nI c) kd x y < 0 → vp_in (qM_place (nI c) kd x y) 27 := fun h => by
  obtain ⟨w, hw, e⟩ := (place_neg hc).2 h
  rw [e]
  exact vp_in_nI hw (by decide)
theorem cM_wire {c : Nat} {thr : Int32} {I : Nat → Nat → Int32} {Q : mx_O → List va_E → Prop} (hc : c ≤ 12) {x s y r : Int32} (hQ : Q (.inl none) (rp (rWire c I x s y r).1 (nI c) (rWire c I x s y r).2)) : mx_W mx_K mT mCl jM_wire (mR 2 43) 0 [.ref 0, .int x, .int s, .int y, .int r, .retAddr 0, .retAddr 0, .retAddr 0] [] (rp thr (nI c) I) Q := by
  have hloop : ∀ (e : Int32) (w : Nat) (I : Nat → Nat → Int32), w < 27 → Q (.inl none) (rp 0 (nI c) (rbeg (upI I 5 (vFill w (I 5))))) → ∀ i, i ≤ 40 → mx_W mx_K mT mCl jM_wire (mR 2 43) 107 [.ref 0, .int x, .int s, .int y, .int r, .int e, .int (nI w), .int (nI i)] [] (rp 0 (nI c) (upI I 5 (lp (fun k f => upd f (40 * w + k) 2) i (I 5)))) Q := by
    intro e w I hw hq
    refine lp_down ?_ ?_
    · refine mx_iload dM_wire_107 rfl ?_
      refine mx_bipush (40) dM_wire_109 (by decide) ?_
      refine mx_icmp_ge 134 dM_wire_111 rfl (fun h111 => ?_) (fun h111 => ?_)
      rotate_left
      · exact absurd (show (40 : Int32) ≤ nI 40 by decide) h111
      refine mx_aload_n dM_wire_134 rfl ?_
      refine mx_V1 (R' := (mR 0 0)) [] _ dM_wire_135 rfl mT_G jM_begin_ok jM_begin_v lkM_67 ⟨rfl, rfl, Nat.le_of_ble_eq_true rfl, Nat.le_of_ble_eq_true rfl⟩ rfl rfl (Nat.le_of_ble_eq_true rfl) (Nat.le_of_ble_eq_true rfl) rfl rfl rfl (fun Qc qc => cM_begin qc) ?_
      refine mx_vret dM_wire_138 rfl ?_
      unfold vFill at hq
      exact hq
    · intro i hi ih
      have ih : mx_W mx_K mT mCl jM_wire (mR 2 43) 107 [.ref 0, .int x, .int s, .int y, .int r, .int e, .int (nI w), .int (nI (i + 1))] [] (rp 0 (nI c) (upI I 5 (upd (lp (fun k f => upd f (40 * w + k) 2) i (I 5)) (40 * w + i) 2))) Q := ih
      generalize lp (fun k f => upd f (40 * w + k) 2) i (I 5) = f at ih ⊢
      refine mx_iload dM_wire_107 rfl ?_
      refine mx_bipush (40) dM_wire_109 (by decide) ?_
      refine mx_icmp_ge 134 dM_wire_111 rfl (fun h111 => ?_) (fun h111 => ?_)
      · exact absurd h111 (nI_ge (b := 40) hi (by decide))
      refine mx_aload_n dM_wire_114 rfl ?_
      refine mx_get 8 6 dM_wire_115 fgM_22 rfl rfl ?_
      refine mx_bipush (40) dM_wire_118 (by decide) ?_
      refine mx_iload dM_wire_120 rfl ?_
      refine mx_imul dM_wire_122 ?_
      refine mx_iload dM_wire_123 rfl ?_
      refine mx_iadd dM_wire_125 ?_
      rw [show (40 : Int32) = nI 40 from rfl, pk_mul, nI_add]
      refine mx_iconst (2) dM_wire_126 (by decide) ?_
      refine mx_iast dM_wire_127 rfl (vp_in_nI (by omega) (by decide)) ?_
      rw [nI_clamp (by omega)]
      refine mx_iinc dM_wire_128 rfl (mx_inc _) (Nat.le_of_ble_eq_true rfl) rfl ?_
      refine mx_goto 107 dM_wire_131 rfl ?_
      refine mx_eqs rfl rfl rfl ?_ ih
      rw [← upI_upI I 5 f]
      rfl
  have hpl := place_neg (kd := I 1) (x := s) (y := y) hc
  have e1 : ∀ z : Int32, ¬ qP_hasGate (nI c) z = 0 → rEnd (nI c) z = true := fun z h => by unfold rEnd; rw [if_pos h]
  have e2 : ∀ z : Int32, qP_hasGate (nI c) z = 0 → ¬ qM_outer z = 0 → rEnd (nI c) z = true := fun z h h2 => by unfold rEnd; rw [if_neg (fun q => q h), if_neg h2]
  have e3 : ∀ z : Int32, qP_hasGate (nI c) z = 0 → qM_outer z = 0 → rEnd (nI c) z = false := fun z h h2 => by unfold rEnd; rw [if_neg (fun q => q h), if_pos h2]
  have hno : (rEnd (nI c) x && rEnd (nI c) s) = false → mx_W mx_K mT mCl jM_wire (mR 2 43) 34 [.ref 0, .int x, .int s, .int y, .int r, .retAddr 0, .retAddr 0, .retAddr 0] [] (rp thr (nI c) I) Q := by
    intro hf
    unfold rWire at hQ
    rw [hf, if_neg (by decide)] at hQ
    refine mx_iconst (0) dM_wire_34 (by decide) ?_
    refine mx_istore dM_wire_35 (Nat.le_of_ble_eq_true rfl) rfl ?_
    refine mx_aload_n dM_wire_37 rfl ?_
    refine mx_iload_n dM_wire_38 rfl ?_
    refine mx_iload_n dM_wire_39 rfl ?_
    refine mx_V1 (R' := (mR 1 21)) [_, _] _ dM_wire_40 rfl mT_G jM_place_ok jM_place_v lkM_70 ⟨rfl, rfl, Nat.le_of_ble_eq_true rfl, Nat.le_of_ble_eq_true rfl⟩ rfl rfl (Nat.le_of_ble_eq_true rfl) (Nat.le_of_ble_eq_true rfl) rfl rfl rfl (fun Qc qc => cM_place (fun hg => by obtain ⟨u, _, _, rfl⟩ := hasG hc hg; exact vp_in_nI (by omega) (by decide)) qc) ?_
    refine mx_istore dM_wire_43 (Nat.le_of_ble_eq_true rfl) rfl ?_
    refine mx_aload_n dM_wire_45 rfl ?_
    refine mx_iload dM_wire_46 rfl ?_
    refine mx_if_ne 55 dM_wire_48 rfl (fun h48 => ?_) (fun h48 => ?_)
    · exact absurd rfl h48
    refine mx_iconst (1) dM_wire_51 (by decide) ?_
    refine mx_goto 76 dM_wire_52 rfl ?_
    refine mx_put 8 0 (.int) dM_wire_76 fpM_49 rfl (Nat.le_of_ble_eq_true rfl) rfl rfl ?_
    refine mx_aload_n dM_wire_79 rfl ?_
    refine mx_get 8 0 dM_wire_80 fgM_49 rfl rfl ?_
    refine mx_if_eq 87 dM_wire_83 rfl (fun h83 => ?_) (fun h83 => ?_)
    · exact absurd h83 (by decide)
    refine mx_vret dM_wire_86 rfl ?_
    exact hQ
  have hyes : (rEnd (nI c) x && rEnd (nI c) s) = true → mx_W mx_K mT mCl jM_wire (mR 2 43) 30 [.ref 0, .int x, .int s, .int y, .int r, .retAddr 0, .retAddr 0, .retAddr 0] [] (rp thr (nI c) I) Q := by
    intro ht
    unfold rWire at hQ
    rw [ht, if_pos rfl] at hQ
    refine mx_iconst (1) dM_wire_30 (by decide) ?_
    refine mx_goto 35 dM_wire_31 rfl ?_
    refine mx_istore dM_wire_35 (Nat.le_of_ble_eq_true rfl) rfl ?_
    refine mx_aload_n dM_wire_37 rfl ?_
    refine mx_iload_n dM_wire_38 rfl ?_
    refine mx_iload_n dM_wire_39 rfl ?_
    refine mx_V1 (R' := (mR 1 21)) [_, _] _ dM_wire_40 rfl mT_G jM_place_ok jM_place_v lkM_70 ⟨rfl, rfl, Nat.le_of_ble_eq_true rfl, Nat.le_of_ble_eq_true rfl⟩ rfl rfl (Nat.le_of_ble_eq_true rfl) (Nat.le_of_ble_eq_true rfl) rfl rfl rfl (fun Qc qc => cM_place (fun hg => by obtain ⟨u, _, _, rfl⟩ := hasG hc hg; exact vp_in_nI (by omega) (by decide)) qc) ?_
    refine mx_istore dM_wire_43 (Nat.le_of_ble_eq_true rfl) rfl ?_
    refine mx_aload_n dM_wire_45 rfl ?_
    refine mx_iload dM_wire_46 rfl ?_
    refine mx_if_ne 55 dM_wire_48 rfl (fun h48 => ?_) (fun h48 => ?_)
    rotate_left
    · exact absurd h48 (by decide)
    refine mx_iload dM_wire_55 rfl ?_
    refine mx_if_lt 71 dM_wire_57 rfl (fun h57 => ?_) (fun h57 => ?_)
    · refine mx_iconst (2) dM_wire_71 (by decide) ?_
      refine mx_goto 76 dM_wire_72 rfl ?_
      refine mx_put 8 0 (.int) dM_wire_76 fpM_49 rfl (Nat.le_of_ble_eq_true rfl) rfl rfl ?_
      refine mx_aload_n dM_wire_79 rfl ?_
      refine mx_get 8 0 dM_wire_80 fgM_49 rfl rfl ?_
      refine mx_if_eq 87 dM_wire_83 rfl (fun h83 => ?_) (fun h83 => ?_)
      · exact absurd h83 (by decide)
      refine mx_vret dM_wire_86 rfl ?_
      first | (rw [if_pos h57] at hQ; exact hQ) | (rw [if_neg h57, if_pos h62] at hQ; exact hQ) | (rw [if_neg h57, if_neg h62, if_pos h68] at hQ; exact hQ)
    · refine mx_iload dM_wire_60 rfl ?_
      refine mx_if_lt 71 dM_wire_62 rfl (fun h62 => ?_) (fun h62 => ?_)
      · refine mx_iconst (2) dM_wire_71 (by decide) ?_
        refine mx_goto 76 dM_wire_72 rfl ?_
        refine mx_put 8 0 (.int) dM_wire_76 fpM_49 rfl (Nat.le_of_ble_eq_true rfl) rfl rfl ?_
        refine mx_aload_n dM_wire_79 rfl ?_
        refine mx_get 8 0 dM_wire_80 fgM_49 rfl rfl ?_
        refine mx_if_eq 87 dM_wire_83 rfl (fun h83 => ?_) (fun h83 => ?_)
        · exact absurd h83 (by decide)
        refine mx_vret dM_wire_86 rfl ?_
        first | (rw [if_pos h57] at hQ; exact hQ) | (rw [if_neg h57, if_pos h62] at hQ; exact hQ) | (rw [if_neg h57, if_neg h62, if_pos h68] at hQ; exact hQ)
      · refine mx_iload dM_wire_65 rfl ?_
        refine mx_iconst (4) dM_wire_67 (by decide) ?_
        refine mx_icmp_le 75 dM_wire_68 rfl (fun h68 => ?_) (fun h68 => ?_)
        · refine mx_iconst (0) dM_wire_75 (by decide) ?_
          refine mx_put 8 0 (.int) dM_wire_76 fpM_49 rfl (Nat.le_of_ble_eq_true rfl) rfl rfl ?_
          refine mx_aload_n dM_wire_79 rfl ?_
          refine mx_get 8 0 dM_wire_80 fgM_49 rfl rfl ?_
          refine mx_if_eq 87 dM_wire_83 rfl (fun h83 => ?_) (fun h83 => ?_)
          rotate_left
          · exact absurd rfl h83
          obtain ⟨w, hw, ew⟩ := hpl.2 h57
          rw [if_neg h57, if_neg h62, if_neg (fun q => q h68), ew, nI_clamp (by omega)] at hQ
          rw [ew]
          refine mx_aload_n dM_wire_87 rfl ?_
          refine mx_get 8 4 dM_wire_88 fgM_16 rfl rfl ?_
          refine mx_iload dM_wire_91 rfl ?_
          refine mx_iload_n dM_wire_93 rfl ?_
          refine mx_iast dM_wire_94 rfl (vp_in_nI (by omega) (by decide)) ?_
          rw [nI_clamp (by omega)]
          refine mx_eqs rfl rfl rfl (rp_3 _) ?_
          refine mx_aload_n dM_wire_95 rfl ?_
          refine mx_get 8 5 dM_wire_96 fgM_19 rfl rfl ?_
          refine mx_iload dM_wire_99 rfl ?_
          refine mx_iload dM_wire_101 rfl ?_
          refine mx_iast dM_wire_103 rfl (vp_in_nI (by omega) (by decide)) ?_
          rw [nI_clamp (by omega)]
          refine mx_eqs rfl rfl rfl (rp_4 _) ?_
          refine mx_iconst (0) dM_wire_104 (by decide) ?_
          refine mx_istore dM_wire_105 (Nat.le_of_ble_eq_true rfl) rfl ?_
          refine mx_eqs rfl rfl rfl ?_ (hloop _ w (upI (upI I 3 (upd (I 3) w x)) 4 (upd (I 4) w r)) hw hQ 0 (Nat.zero_le _))
          rw [lp_zero, upI_own]
          rfl
        · refine mx_iconst (2) dM_wire_71 (by decide) ?_
          refine mx_goto 76 dM_wire_72 rfl ?_
          refine mx_put 8 0 (.int) dM_wire_76 fpM_49 rfl (Nat.le_of_ble_eq_true rfl) rfl rfl ?_
          refine mx_aload_n dM_wire_79 rfl ?_
          refine mx_get 8 0 dM_wire_80 fgM_49 rfl rfl ?_
          refine mx_if_eq 87 dM_wire_83 rfl (fun h83 => ?_) (fun h83 => ?_)
          · exact absurd h83 (by decide)
          refine mx_vret dM_wire_86 rfl ?_
          first | (rw [if_pos h57] at hQ; exact hQ) | (rw [if_neg h57, if_pos h62] at hQ; exact hQ) | (rw [if_neg h57, if_neg h62, if_pos h68] at hQ; exact hQ)
  refine mx_aload_n dM_wire_0 rfl ?_
  refine mx_iload_n dM_wire_1 rfl ?_
  refine mx_V1 (R' := (mR 0 0)) [_] _ dM_wire_2 rfl mT_G jM_isGate_ok jM_isGate_v lkM_60 ⟨rfl, rfl, Nat.le_of_ble_eq_true rfl, Nat.le_of_ble_eq_true rfl⟩ rfl rfl (Nat.le_of_ble_eq_true rfl) (Nat.le_of_ble_eq_true rfl) rfl rfl rfl (fun Qc qc => cM_isGate qc) ?_
  refine mx_if_ne 15 dM_wire_5 rfl (fun h5 => ?_) (fun h5 => ?_)
  · refine mx_aload_n dM_wire_15 rfl ?_
    refine mx_iload_n dM_wire_16 rfl ?_
    refine mx_V1 (R' := (mR 0 0)) [_] _ dM_wire_17 rfl mT_G jM_isGate_ok jM_isGate_v lkM_60 ⟨rfl, rfl, Nat.le_of_ble_eq_true rfl, Nat.le_of_ble_eq_true rfl⟩ rfl rfl (Nat.le_of_ble_eq_true rfl) (Nat.le_of_ble_eq_true rfl) rfl rfl rfl (fun Qc qc => cM_isGate qc) ?_
    refine mx_if_ne 30 dM_wire_20 rfl (fun h20 => ?_) (fun h20 => ?_)
    · refine hyes ?_
      refine Bool.and_eq_true_iff.mpr ⟨?_, ?_⟩
      · first | exact e1 x h5 | exact e2 x h5 h12
      · first | exact e1 s h20 | exact e2 s h20 h27
    · refine mx_iload_n dM_wire_23 rfl ?_
      refine mx_S1 (R' := (mR 0 0)) [_] _ dM_wire_24 rfl mT_G jM_isOuter_ok jM_isOuter_v lkM_56 ⟨rfl, rfl, Nat.le_of_ble_eq_true rfl, Nat.le_of_ble_eq_true rfl⟩ rfl rfl (Nat.le_of_ble_eq_true rfl) (Nat.le_of_ble_eq_true rfl) (fun Qc qc => cM_isOuter qc) ?_
      refine mx_if_eq 34 dM_wire_27 rfl (fun h27 => ?_) (fun h27 => ?_)
      · refine hno ?_
        first | (rw [e3 x h5 h12]; rfl) | (rw [e3 s h20 h27, Bool.and_false])
      · refine hyes ?_
        refine Bool.and_eq_true_iff.mpr ⟨?_, ?_⟩
        · first | exact e1 x h5 | exact e2 x h5 h12
        · first | exact e1 s h20 | exact e2 s h20 h27
  · refine mx_iload_n dM_wire_8 rfl ?_
    refine mx_S1 (R' := (mR 0 0)) [_] _ dM_wire_9 rfl mT_G jM_isOuter_ok jM_isOuter_v lkM_56 ⟨rfl, rfl, Nat.le_of_ble_eq_true rfl, Nat.le_of_ble_eq_true rfl⟩ rfl rfl (Nat.le_of_ble_eq_true rfl) (Nat.le_of_ble_eq_true rfl) (fun Qc qc => cM_isOuter qc) ?_
    refine mx_if_eq 34 dM_wire_12 rfl (fun h12 => ?_) (fun h12 => ?_)
    · refine hno ?_
      first | (rw [e3 x h5 h12]; rfl) | (rw [e3 s h20 h27, Bool.and_false])
    · refine mx_aload_n dM_wire_15 rfl ?_
      refine mx_iload_n dM_wire_16 rfl ?_
      refine mx_V1 (R' := (mR 0 0)) [_] _ dM_wire_17 rfl mT_G jM_isGate_ok jM_isGate_v lkM_60 ⟨rfl, rfl, Nat.le_of_ble_eq_true rfl, Nat.le_of_ble_eq_true rfl⟩ rfl rfl (Nat.le_of_ble_eq_true rfl) (Nat.le_of_ble_eq_true rfl) rfl rfl rfl (fun Qc qc => cM_isGate qc) ?_
      refine mx_if_ne 30 dM_wire_20 rfl (fun h20 => ?_) (fun h20 => ?_)
      · refine hyes ?_
        refine Bool.and_eq_true_iff.mpr ⟨?_, ?_⟩
        · first | exact e1 x h5 | exact e2 x h5 h12
        · first | exact e1 s h20 | exact e2 s h20 h27
      · refine mx_iload_n dM_wire_23 rfl ?_
        refine mx_S1 (R' := (mR 0 0)) [_] _ dM_wire_24 rfl mT_G jM_isOuter_ok jM_isOuter_v lkM_56 ⟨rfl, rfl, Nat.le_of_ble_eq_true rfl, Nat.le_of_ble_eq_true rfl⟩ rfl rfl (Nat.le_of_ble_eq_true rfl) (Nat.le_of_ble_eq_true rfl) (fun Qc qc => cM_isOuter qc) ?_
        refine mx_if_eq 34 dM_wire_27 rfl (fun h27 => ?_) (fun h27 => ?_)
        · refine hno ?_
          first | (rw [e3 x h5 h12]; rfl) | (rw [e3 s h20 h27, Bool.and_false])
        · refine hyes ?_
          refine Bool.and_eq_true_iff.mpr ⟨?_, ?_⟩
          · first | exact e1 x h5 | exact e2 x h5 h12
          · first | exact e1 s h20 | exact e2 s h20 h27
