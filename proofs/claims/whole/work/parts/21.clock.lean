/-! Clock. -/
def cIn (V : Nat → Int32) (a b d : Int32) : Nat → Int32 := upd (upd (upd V 2 a) 1 b) 0 d
def cV (sr ln : Nat → Int32) (vl : Nat → Int64) (V : Nat → Int32) (w : Nat) : Int32 := if ln w ≤ 0 then V (3 + sr w).toNatClampNeg else bRd (vl w) 0
theorem cC_setInputs {c : Nat} {fil : Int32} {I : Nat → Nat → Int32} {L : Nat → Nat → Int64} {Q : mx_O → List va_E → Prop} {x y z : Int32} (hQ : Q (.inl none) (pic (nI c) fil (upI I 25 (cIn (I 25) x y z)) L)) : mx_W mx_K mT mCl jC_setInputs (mR 0 0) 0 [.ref 8, .int x, .int y, .int z] [] (pic (nI c) fil I L) Q := by
  refine mx_aload_n dC_setInputs_0 rfl ?_
  refine mx_get 7 1 dC_setInputs_1 fgC_18 rfl rfl ?_
  refine mx_iconst (2) dC_setInputs_4 (by decide) ?_
  refine mx_iload_n dC_setInputs_5 rfl ?_
  refine mx_iast dC_setInputs_6 rfl (vp_in_nI (n := 2) (by decide) (by decide)) ?_
  rw [show (2 : Int32).toNatClampNeg = 2 from by decide]
  refine mx_eqs rfl rfl rfl (pic_25 _) ?_
  refine mx_aload_n dC_setInputs_7 rfl ?_
  refine mx_get 7 1 dC_setInputs_8 fgC_18 rfl rfl ?_
  refine mx_iconst (1) dC_setInputs_11 (by decide) ?_
  refine mx_iload_n dC_setInputs_12 rfl ?_
  refine mx_iast dC_setInputs_13 rfl (vp_in_nI (n := 1) (by decide) (by decide)) ?_
  rw [show (1 : Int32).toNatClampNeg = 1 from by decide]
  refine mx_eqs rfl rfl rfl (pic_25 _) ?_
  rw [upI_upI, upI_self]
  refine mx_aload_n dC_setInputs_14 rfl ?_
  refine mx_get 7 1 dC_setInputs_15 fgC_18 rfl rfl ?_
  refine mx_iconst (0) dC_setInputs_18 (by decide) ?_
  refine mx_iload_n dC_setInputs_19 rfl ?_
  refine mx_iast dC_setInputs_20 rfl (vp_in_nI (n := 0) (by decide) (by decide)) ?_
  refine mx_vret dC_setInputs_21 rfl ?_
  rw [show (0 : Int32).toNatClampNeg = 0 from by decide]
  show Q (.inl none) ((pic (nI c) fil (upI I 25 (upd (upd (I 25) 2 x) 1 y)) L).set 25 (eI 16 (upd (upI I 25 (upd (upd (I 25) 2 x) 1 y) 25) 0 z)))
  rw [pic_25, upI_upI, upI_self]
  exact hQ
theorem cC_valueOf {c : Nat} {fil : Int32} {I : Nat → Nat → Int32} {L : Nat → Nat → Int64} {Q : mx_O → List va_E → Prop} {w : Nat} (hw : w < 27) (hv : vp_in (3 + I 12 w) 16) (hQ : Q (.inl (some (.int (cV (I 12) (I 65) (L 66) (I 25) w)))) (pic (nI c) fil I L)) : mx_W mx_K mT mCl jC_valueOf (mR 1 22) 0 [.ref 8, .ref 1, .int (nI w)] [] (pic (nI c) fil I L) Q := by
  unfold cV at hQ
  refine mx_aload_n dC_valueOf_0 rfl ?_
  refine mx_get 7 0 dC_valueOf_1 fgC_12 rfl rfl ?_
  refine mx_iload_n dC_valueOf_4 rfl ?_
  refine mx_V1 (R' := (mR 0 0)) [_] _ dC_valueOf_5 rfl mT_G jB_length_ok jB_length_v lkC_60 ⟨rfl, rfl, Nat.le_of_ble_eq_true rfl, Nat.le_of_ble_eq_true rfl⟩ rfl rfl (Nat.le_of_ble_eq_true rfl) (Nat.le_of_ble_eq_true rfl) rfl rfl rfl (fun Qc qc => cB_length pic_S (vp_in_nI (by omega) (by decide)) qc) ?_
  rw [nI_clamp (by omega)]
  refine mx_if_le 23 dC_valueOf_8 rfl (fun h8 => ?_) (fun h8 => ?_)
  · refine mx_aload_n dC_valueOf_23 rfl ?_
    refine mx_get 7 1 dC_valueOf_24 fgC_18 rfl rfl ?_
    refine mx_iconst (3) dC_valueOf_27 (by decide) ?_
    refine mx_aload_n dC_valueOf_28 rfl ?_
    refine mx_get 1 3 dC_valueOf_29 fgC_57 rfl rfl ?_
    refine mx_iload_n dC_valueOf_32 rfl ?_
    refine mx_iald dC_valueOf_33 rfl (vp_in_nI (by omega) (by decide)) ?_
    rw [nI_clamp (by omega)]
    refine mx_iadd dC_valueOf_34 ?_
    refine mx_iald dC_valueOf_35 rfl hv ?_
    refine mx_iret dC_valueOf_36 rfl rfl ?_
    first | rw [if_pos h8] at hQ | rw [if_neg h8] at hQ
    exact hQ
  · refine mx_aload_n dC_valueOf_11 rfl ?_
    refine mx_get 7 0 dC_valueOf_12 fgC_12 rfl rfl ?_
    refine mx_iload_n dC_valueOf_15 rfl ?_
    refine mx_iconst (0) dC_valueOf_16 (by decide) ?_
    refine mx_V1 (R' := (mR 0 0)) [_, _] _ dC_valueOf_17 rfl mT_G jB_read_ok jB_read_v lkC_70 ⟨rfl, rfl, Nat.le_of_ble_eq_true rfl, Nat.le_of_ble_eq_true rfl⟩ rfl rfl (Nat.le_of_ble_eq_true rfl) (Nat.le_of_ble_eq_true rfl) rfl rfl rfl (fun Qc qc => cB_read pic_S (vp_in_nI (by omega) (by decide)) qc) ?_
    rw [nI_clamp (by omega)]
    refine mx_goto 36 dC_valueOf_20 rfl ?_
    refine mx_iret dC_valueOf_36 rfl rfl ?_
    first | rw [if_pos h8] at hQ | rw [if_neg h8] at hQ
    exact hQ
def sStep (kd sr ln : Nat → Int32) (vl : Nat → Int64) (g : Nat) (V : Nat → Int32) : Nat → Int32 := upd V (3 + g) (gMade (kd g) (cV sr ln vl V (2 * g - 2)) (if ¬ nI (pn kd g) = 2 then 2 else cV sr ln vl V (2 * g - 2 + 1)))
def cSet (kd sr ln : Nat → Int32) (vl : Nat → Int64) (pl : Nat → Nat) (n : Nat) (V : Nat → Int32) : Nat → Int32 := lp (fun a V => sStep kd sr ln vl (pl a) V) n V
theorem cC_settle {c : Nat} {fil : Int32} {I : Nat → Nat → Int32} {L : Nat → Nat → Int64} {Q : mx_O → List va_E → Prop} (hc : c ≤ 12) {pl : Nat → Nat} (hpl : ∀ a, a < c → 1 ≤ pl a ∧ pl a ≤ 12 ∧ I 17 a = nI (pl a)) (hv : ∀ w, w < 27 → vp_in (3 + I 12 w) 16) (hQ : Q (.inl none) (pic (nI c) fil (upI I 25 (cSet (I 10) (I 12) (I 65) (L 66) pl c (I 25))) L)) : mx_W mx_K mT mCl jC_settle (mR 2 44) 0 [.ref 8, .ref 1, .ref 4, .retAddr 0, .retAddr 0, .retAddr 0, .retAddr 0, .retAddr 0] [] (pic (nI c) fil I L) Q := by
  have hloop : ∀ i, i ≤ c → mx_W mx_K mT mCl jC_settle (mR 2 44) 2 [.ref 8, .ref 1, .ref 4, .int (nI i), .retAddr 0, .retAddr 0, .retAddr 0, .retAddr 0] [] (pic (nI c) fil (upI I 25 (lp (fun a V => sStep (I 10) (I 12) (I 65) (L 66) (pl a) V) i (I 25))) L) Q := by
    refine lp_down ?_ ?_
    · refine mx_iload_n dC_settle_2 rfl ?_
      refine mx_aload_n dC_settle_3 rfl ?_
      refine mx_get 1 0 dC_settle_4 fgC_26 rfl rfl ?_
      refine mx_icmp_ge 89 dC_settle_7 rfl (fun h7 => ?_) (fun h7 => ?_)
      rotate_left
      · exact absurd (nI_le (Nat.le_refl c) (by omega)) h7
      refine mx_vret dC_settle_89 rfl ?_
      exact hQ
    · intro i hi ih
      obtain ⟨g1, g2, eg⟩ := hpl i hi
      have ih : mx_W mx_K mT mCl jC_settle (mR 2 44) 2 [.ref 8, .ref 1, .ref 4, .int (nI (i + 1)), .retAddr 0, .retAddr 0, .retAddr 0, .retAddr 0] [] (pic (nI c) fil (upI I 25 (sStep (I 10) (I 12) (I 65) (L 66) (pl i) (lp (fun a V => sStep (I 10) (I 12) (I 65) (L 66) (pl a) V) i (I 25)))) L) Q := ih
      generalize lp (fun a V => sStep (I 10) (I 12) (I 65) (L 66) (pl a) V) i (I 25) = V at ih ⊢
      generalize pl i = g at g1 g2 eg ih
      have hp2 := pn_le (I 10) g
      unfold sStep at ih
      have hg : vp_in (nI g) 13 := (vp_in_nI (by omega) (by decide))
      refine mx_iload_n dC_settle_2 rfl ?_
      refine mx_aload_n dC_settle_3 rfl ?_
      refine mx_get 1 0 dC_settle_4 fgC_26 rfl rfl ?_
      refine mx_icmp_ge 89 dC_settle_7 rfl (fun h7 => ?_) (fun h7 => ?_)
      · exact absurd h7 (nI_ge hi (by omega))
      refine mx_aload_n dC_settle_10 rfl ?_
      refine mx_get 3 0 dC_settle_11 fgC_32 rfl rfl ?_
      refine mx_iload_n dC_settle_14 rfl ?_
      refine mx_iald dC_settle_15 rfl (vp_in_nI (by omega) (by decide)) ?_
      rw [nI_clamp (by omega)]
      show mx_W mx_K mT mCl jC_settle (mR 2 44) _ _ (.int (I 17 i) :: _) _ _
      rw [eg]
      refine mx_istore dC_settle_16 (Nat.le_of_ble_eq_true rfl) rfl ?_
      refine mx_aload_n dC_settle_18 rfl ?_
      refine mx_iload dC_settle_19 rfl ?_
      refine mx_V1 (R' := (mR 0 0)) [_] _ dC_settle_21 rfl mT_G jP_firstPin_ok jP_firstPin_v lkC_37 ⟨rfl, rfl, Nat.le_of_ble_eq_true rfl, Nat.le_of_ble_eq_true rfl⟩ rfl rfl (Nat.le_of_ble_eq_true rfl) (Nat.le_of_ble_eq_true rfl) rfl rfl rfl (fun Qc qc => cP_firstPin qc) ?_
      rw [fp_nat g1]
      refine mx_istore dC_settle_24 (Nat.le_of_ble_eq_true rfl) rfl ?_
      refine mx_aload_n dC_settle_26 rfl ?_
      refine mx_aload_n dC_settle_27 rfl ?_
      refine mx_iload dC_settle_28 rfl ?_
      refine mx_V1 (R' := (mR 1 22)) [_, _] _ dC_settle_30 rfl mT_G jC_valueOf_ok jC_valueOf_v lkC_41 ⟨rfl, rfl, Nat.le_of_ble_eq_true rfl, Nat.le_of_ble_eq_true rfl⟩ rfl rfl (Nat.le_of_ble_eq_true rfl) (Nat.le_of_ble_eq_true rfl) rfl rfl rfl (fun Qc qc => cC_valueOf (I := upI I 25 V) (by omega) (hv _ (by omega)) qc) ?_
      rw [show cV (upI I 25 V 12) (upI I 25 V 65) (L 66) (upI I 25 V 25) (2 * g - 2) = cV (I 12) (I 65) (L 66) V (2 * g - 2) from rfl]
      refine mx_istore dC_settle_33 (Nat.le_of_ble_eq_true rfl) rfl ?_
      refine mx_aload_n dC_settle_35 rfl ?_
      refine mx_iload dC_settle_36 rfl ?_
      refine mx_V1 (R' := (mR 0 0)) [_] _ dC_settle_38 rfl mT_G jP_pinsOf_ok jP_pinsOf_v lkC_45 ⟨rfl, rfl, Nat.le_of_ble_eq_true rfl, Nat.le_of_ble_eq_true rfl⟩ rfl rfl (Nat.le_of_ble_eq_true rfl) (Nat.le_of_ble_eq_true rfl) rfl rfl rfl (fun Qc qc => cP_pinsOf pic_P hg qc) ?_
      rw [show qP_pinsOf (upI I 25 V 10) (nI g) = qP_pinsOf (I 10) (nI g) from rfl, pn_nat (by omega)]
      refine mx_iconst (2) dC_settle_41 (by decide) ?_
      refine mx_icmp_ne 57 dC_settle_42 rfl (fun h42 => ?_) (fun h42 => ?_)
      · refine mx_iconst (2) dC_settle_57 (by decide) ?_
        refine mx_istore dC_settle_58 (Nat.le_of_ble_eq_true rfl) rfl ?_
        refine mx_aload_n dC_settle_60 rfl ?_
        refine mx_get 7 1 dC_settle_61 fgC_18 rfl rfl ?_
        refine mx_iconst (3) dC_settle_64 (by decide) ?_
        refine mx_iload dC_settle_65 rfl ?_
        refine mx_iadd dC_settle_67 ?_
        rw [show (3 : Int32) = nI 3 from rfl, nI_add]
        refine mx_aload_n dC_settle_68 rfl ?_
        refine mx_get 1 1 dC_settle_69 fgC_48 rfl rfl ?_
        refine mx_iload dC_settle_72 rfl ?_
        refine mx_iald dC_settle_74 rfl hg ?_
        rw [nI_clamp (by omega), show upI I 25 V 10 g = I 10 g from rfl]
        refine mx_iload dC_settle_75 rfl ?_
        refine mx_iload dC_settle_77 rfl ?_
        refine mx_S1 (R' := (mR 1 22)) [_, _, _] _ dC_settle_79 rfl mT_G jG_made_ok jG_made_v lkC_51 ⟨rfl, rfl, Nat.le_of_ble_eq_true rfl, Nat.le_of_ble_eq_true rfl⟩ rfl rfl (Nat.le_of_ble_eq_true rfl) (Nat.le_of_ble_eq_true rfl) (fun Qc qc => cG_made qc) ?_
        refine mx_iast dC_settle_82 rfl (vp_in_nI (by omega) (by decide)) ?_
        rw [nI_clamp (by omega)]
        refine mx_eqs rfl rfl rfl (pic_25 _) ?_
        rw [upI_self, upI_upI]
        first | rw [if_pos h42] at ih | rw [if_neg (fun e => e h42)] at ih
        refine mx_iinc dC_settle_83 rfl (mx_inc _) (Nat.le_of_ble_eq_true rfl) rfl ?_
        refine mx_goto 2 dC_settle_86 rfl ?_
        refine mx_drop 4 ?_
        refine mx_drop 5 ?_
        refine mx_drop 6 ?_
        refine mx_drop 7 ?_
        exact ih
      · refine mx_aload_n dC_settle_45 rfl ?_
        refine mx_aload_n dC_settle_46 rfl ?_
        refine mx_iload dC_settle_47 rfl ?_
        refine mx_iconst (1) dC_settle_49 (by decide) ?_
        refine mx_iadd dC_settle_50 ?_
        rw [nI_1]
        refine mx_V1 (R' := (mR 1 22)) [_, _] _ dC_settle_51 rfl mT_G jC_valueOf_ok jC_valueOf_v lkC_41 ⟨rfl, rfl, Nat.le_of_ble_eq_true rfl, Nat.le_of_ble_eq_true rfl⟩ rfl rfl (Nat.le_of_ble_eq_true rfl) (Nat.le_of_ble_eq_true rfl) rfl rfl rfl (fun Qc qc => cC_valueOf (I := upI I 25 V) (by omega) (hv _ (by omega)) qc) ?_
        rw [show cV (upI I 25 V 12) (upI I 25 V 65) (L 66) (upI I 25 V 25) (2 * g - 2 + 1) = cV (I 12) (I 65) (L 66) V (2 * g - 2 + 1) from rfl]
        refine mx_goto 58 dC_settle_54 rfl ?_
        refine mx_istore dC_settle_58 (Nat.le_of_ble_eq_true rfl) rfl ?_
        refine mx_aload_n dC_settle_60 rfl ?_
        refine mx_get 7 1 dC_settle_61 fgC_18 rfl rfl ?_
        refine mx_iconst (3) dC_settle_64 (by decide) ?_
        refine mx_iload dC_settle_65 rfl ?_
        refine mx_iadd dC_settle_67 ?_
        rw [show (3 : Int32) = nI 3 from rfl, nI_add]
        refine mx_aload_n dC_settle_68 rfl ?_
        refine mx_get 1 1 dC_settle_69 fgC_48 rfl rfl ?_
        refine mx_iload dC_settle_72 rfl ?_
        refine mx_iald dC_settle_74 rfl hg ?_
        rw [nI_clamp (by omega), show upI I 25 V 10 g = I 10 g from rfl]
        refine mx_iload dC_settle_75 rfl ?_
        refine mx_iload dC_settle_77 rfl ?_
        refine mx_S1 (R' := (mR 1 22)) [_, _, _] _ dC_settle_79 rfl mT_G jG_made_ok jG_made_v lkC_51 ⟨rfl, rfl, Nat.le_of_ble_eq_true rfl, Nat.le_of_ble_eq_true rfl⟩ rfl rfl (Nat.le_of_ble_eq_true rfl) (Nat.le_of_ble_eq_true rfl) (fun Qc qc => cG_made qc) ?_
        refine mx_iast dC_settle_82 rfl (vp_in_nI (by omega) (by decide)) ?_
        rw [nI_clamp (by omega)]
        refine mx_eqs rfl rfl rfl (pic_25 _) ?_
        rw [upI_self, upI_upI]
        first | rw [if_pos h42] at ih | rw [if_neg (fun e => e h42)] at ih
        refine mx_iinc dC_settle_83 rfl (mx_inc _) (Nat.le_of_ble_eq_true rfl) rfl ?_
        refine mx_goto 2 dC_settle_86 rfl ?_
        refine mx_drop 4 ?_
        refine mx_drop 5 ?_
        refine mx_drop 6 ?_
        refine mx_drop 7 ?_
        exact ih
  refine mx_iconst (0) dC_settle_0 (by decide) ?_
  refine mx_istore_n dC_settle_1 (Nat.le_of_ble_eq_true rfl) rfl ?_
  refine mx_eqs rfl rfl rfl ?_ (hloop 0 (Nat.zero_le _))
  rw [lp_zero, upI_own]
def cOut (sr ln : Nat → Int32) (vl : Nat → Int64) (V : Nat → Int32) : Int32 := lp (fun i a => 4 * a + (if ¬ sr (26 - i) = 0 then cV sr ln vl V (26 - i) else 3)) 3 0
theorem cC_outputs {c : Nat} {fil : Int32} {I : Nat → Nat → Int32} {L : Nat → Nat → Int64} {Q : mx_O → List va_E → Prop} (hv : ∀ w, w < 27 → vp_in (3 + I 12 w) 16) (hQ : Q (.inl (some (.int (cOut (I 12) (I 65) (L 66) (I 25))))) (pic (nI c) fil I L)) : mx_W mx_K mT mCl jC_outputs (mR 2 44) 0 [.ref 8, .ref 1, .retAddr 0, .retAddr 0, .retAddr 0] [] (pic (nI c) fil I L) Q := by
  have hloop : ∀ i, i ≤ 3 → mx_W mx_K mT mCl jC_outputs (mR 2 44) 5 [.ref 8, .ref 1, .int (lp (fun i a => 4 * a + (if ¬ I 12 (26 - i) = 0 then cV (I 12) (I 65) (L 66) (I 25) (26 - i) else 3)) i 0), .int (nI (26 - i)), .retAddr 0] [] (pic (nI c) fil I L) Q := by
    refine lp_down ?_ ?_
    · refine mx_iload_n dC_outputs_5 rfl ?_
      refine mx_bipush (24) dC_outputs_6 (by decide) ?_
      refine mx_icmp_lt 45 dC_outputs_8 rfl (fun h8 => ?_) (fun h8 => ?_)
      rotate_left
      · exact absurd (show nI (26 - 3) < (24 : Int32) by decide) h8
      refine mx_iload_n dC_outputs_45 rfl ?_
      refine mx_iret dC_outputs_46 rfl rfl ?_
      exact hQ
    · intro i hi ih
      have ih : mx_W mx_K mT mCl jC_outputs (mR 2 44) 5 [.ref 8, .ref 1, .int (4 * lp (fun i a => 4 * a + (if ¬ I 12 (26 - i) = 0 then cV (I 12) (I 65) (L 66) (I 25) (26 - i) else 3)) i 0 + (if ¬ I 12 (26 - i) = 0 then cV (I 12) (I 65) (L 66) (I 25) (26 - i) else 3)), .int (nI (26 - (i + 1))), .retAddr 0] [] (pic (nI c) fil I L) Q := ih
      generalize lp (fun i a => 4 * a + (if ¬ I 12 (26 - i) = 0 then cV (I 12) (I 65) (L 66) (I 25) (26 - i) else 3)) i 0 = a at ih ⊢
      have hdec : nI (26 - i) + Int32.ofInt (-1) = nI (26 - (i + 1)) := by
        rw [show 26 - i = (26 - (i + 1)) + 1 by omega]
        exact mx_dec _
      refine mx_iload_n dC_outputs_5 rfl ?_
      refine mx_bipush (24) dC_outputs_6 (by decide) ?_
      refine mx_icmp_lt 45 dC_outputs_8 rfl (fun h8 => ?_) (fun h8 => ?_)
      · exact absurd h8 (nI_nlt (b := 24) (by omega) (by omega))
      refine mx_aload_n dC_outputs_11 rfl ?_
      refine mx_get 1 3 dC_outputs_12 fgC_57 rfl rfl ?_
      refine mx_iload_n dC_outputs_15 rfl ?_
      refine mx_iald dC_outputs_16 rfl (vp_in_nI (by omega) (by decide)) ?_
      rw [nI_clamp (by omega)]
      refine mx_if_ne 24 dC_outputs_17 rfl (fun h17 => ?_) (fun h17 => ?_)
      · refine mx_aload_n dC_outputs_24 rfl ?_
        refine mx_aload_n dC_outputs_25 rfl ?_
        refine mx_iload_n dC_outputs_26 rfl ?_
        refine mx_V1 (R' := (mR 1 22)) [_, _] _ dC_outputs_27 rfl mT_G jC_valueOf_ok jC_valueOf_v lkC_41 ⟨rfl, rfl, Nat.le_of_ble_eq_true rfl, Nat.le_of_ble_eq_true rfl⟩ rfl rfl (Nat.le_of_ble_eq_true rfl) (Nat.le_of_ble_eq_true rfl) rfl rfl rfl (fun Qc qc => cC_valueOf (by omega) (hv _ (by omega)) qc) ?_
        refine mx_istore dC_outputs_30 (Nat.le_of_ble_eq_true rfl) rfl ?_
        refine mx_iconst (4) dC_outputs_32 (by decide) ?_
        refine mx_iload_n dC_outputs_33 rfl ?_
        refine mx_imul dC_outputs_34 ?_
        refine mx_iload dC_outputs_35 rfl ?_
        refine mx_iadd dC_outputs_37 ?_
        refine mx_istore_n dC_outputs_38 (Nat.le_of_ble_eq_true rfl) rfl ?_
        first | rw [if_pos h17] at ih | rw [if_neg (fun e => e h17)] at ih
        refine mx_iinc dC_outputs_39 rfl hdec (Nat.le_of_ble_eq_true rfl) rfl ?_
        refine mx_goto 5 dC_outputs_42 rfl ?_
        refine mx_drop 4 ?_
        exact ih
      · refine mx_iconst (3) dC_outputs_20 (by decide) ?_
        refine mx_goto 30 dC_outputs_21 rfl ?_
        refine mx_istore dC_outputs_30 (Nat.le_of_ble_eq_true rfl) rfl ?_
        refine mx_iconst (4) dC_outputs_32 (by decide) ?_
        refine mx_iload_n dC_outputs_33 rfl ?_
        refine mx_imul dC_outputs_34 ?_
        refine mx_iload dC_outputs_35 rfl ?_
        refine mx_iadd dC_outputs_37 ?_
        refine mx_istore_n dC_outputs_38 (Nat.le_of_ble_eq_true rfl) rfl ?_
        first | rw [if_pos h17] at ih | rw [if_neg (fun e => e h17)] at ih
        refine mx_iinc dC_outputs_39 rfl hdec (Nat.le_of_ble_eq_true rfl) rfl ?_
        refine mx_goto 5 dC_outputs_42 rfl ?_
        refine mx_drop 4 ?_
        exact ih
  refine mx_iconst (0) dC_outputs_0 (by decide) ?_
  refine mx_istore_n dC_outputs_1 (Nat.le_of_ble_eq_true rfl) rfl ?_
  refine mx_bipush (26) dC_outputs_2 (by decide) ?_
  refine mx_istore_n dC_outputs_4 (Nat.le_of_ble_eq_true rfl) rfl ?_
  exact hloop 0 (Nat.zero_le _)
def kPic (c : Nat) (fil : Int32) (I : Nat → Nat → Int32) (L : Nat → Nat → Int64) (b : bS) : List va_E := pic (nI c) fil (upI I 65 b.1) (upL L 66 b.2)
theorem kPic_B {c : Nat} {fil : Int32} {I : Nat → Nat → Int32} {L : Nat → Nat → Int64} {b : bS} : pB (kPic c fil I L b) 24 65 66 b.1 b.2 := ⟨rfl, rfl, rfl⟩
theorem kPic_set {c : Nat} {fil : Int32} {I : Nat → Nat → Int32} {L : Nat → Nat → Int64} {b : bS} (f : Nat → Int32) (g : Nat → Int64) : ((kPic c fil I L b).set 66 (eV g)).set 65 (eL f) = kPic c fil I L (f, g) := by
  unfold kPic
  rw [pic_66, show eL f = eI 27 f from rfl, pic_65, upI_upI, upL_upL]
def cSh (sr V : Nat → Int32) (b : bS) : bS := lp (fun w b => if b.1 w ≤ 0 then b else bPu (bTk b w) w (V (3 + sr w).toNatClampNeg)) 27 b
theorem cC_shift {c : Nat} {fil : Int32} {I : Nat → Nat → Int32} {L : Nat → Nat → Int64} {Q : mx_O → List va_E → Prop} (hv : ∀ w, w < 27 → vp_in (3 + I 12 w) 16) (hQ : Q (.inl none) (kPic c fil I L (cSh (I 12) (I 25) (I 65, L 66)))) : mx_W mx_K mT mCl jC_shift (mR 2 47) 0 [.ref 8, .ref 1, .retAddr 0] [] (pic (nI c) fil I L) Q := by
  have hloop : ∀ i, i ≤ 27 → mx_W mx_K mT mCl jC_shift (mR 2 47) 2 [.ref 8, .ref 1, .int (nI i)] [] (kPic c fil I L (lp (fun w (b : bS) => if b.1 w ≤ 0 then b else bPu (bTk b w) w (I 25 (3 + I 12 w).toNatClampNeg)) i (I 65, L 66))) Q := by
    refine lp_down ?_ ?_
    · refine mx_iload_n dC_shift_2 rfl ?_
      refine mx_bipush (27) dC_shift_3 (by decide) ?_
      refine mx_icmp_ge 55 dC_shift_5 rfl (fun h5 => ?_) (fun h5 => ?_)
      rotate_left
      · exact absurd (show (27 : Int32) ≤ nI 27 by decide) h5
      refine mx_vret dC_shift_55 rfl ?_
      unfold cSh at hQ
      exact hQ
    · intro i hi ih
      have ih : mx_W mx_K mT mCl jC_shift (mR 2 47) 2 [.ref 8, .ref 1, .int (nI (i + 1))] [] (kPic c fil I L ((fun w (b : bS) => if b.1 w ≤ 0 then b else bPu (bTk b w) w (I 25 (3 + I 12 w).toNatClampNeg)) i (lp (fun w (b : bS) => if b.1 w ≤ 0 then b else bPu (bTk b w) w (I 25 (3 + I 12 w).toNatClampNeg)) i (I 65, L 66)))) Q := ih
      generalize lp (fun w (b : bS) => if b.1 w ≤ 0 then b else bPu (bTk b w) w (I 25 (3 + I 12 w).toNatClampNeg)) i (I 65, L 66) = t at ih ⊢
      dsimp only at ih
      refine mx_iload_n dC_shift_2 rfl ?_
      refine mx_bipush (27) dC_shift_3 (by decide) ?_
      refine mx_icmp_ge 55 dC_shift_5 rfl (fun h5 => ?_) (fun h5 => ?_)
      · exact absurd h5 (nI_ge (b := 27) hi (by decide))
      refine mx_aload_n dC_shift_8 rfl ?_
      refine mx_get 7 0 dC_shift_9 fgC_12 rfl rfl ?_
      refine mx_iload_n dC_shift_12 rfl ?_
      refine mx_V1 (R' := (mR 0 0)) [_] _ dC_shift_13 rfl mT_G jB_length_ok jB_length_v lkC_60 ⟨rfl, rfl, Nat.le_of_ble_eq_true rfl, Nat.le_of_ble_eq_true rfl⟩ rfl rfl (Nat.le_of_ble_eq_true rfl) (Nat.le_of_ble_eq_true rfl) rfl rfl rfl (fun Qc qc => cB_length kPic_B (vp_in_nI (by omega) (by decide)) qc) ?_
      rw [nI_clamp (by omega)]
      refine mx_if_le 49 dC_shift_16 rfl (fun h16 => ?_) (fun h16 => ?_)
      · first | rw [if_pos h16] at ih | rw [if_neg h16] at ih
        refine mx_iinc dC_shift_49 rfl (mx_inc _) (Nat.le_of_ble_eq_true rfl) rfl ?_
        refine mx_goto 2 dC_shift_52 rfl ?_
        exact ih
      · refine mx_aload_n dC_shift_19 rfl ?_
        refine mx_get 7 0 dC_shift_20 fgC_12 rfl rfl ?_
        refine mx_iload_n dC_shift_23 rfl ?_
        refine mx_V1 (R' := (mR 1 22)) [_] _ dC_shift_24 rfl mT_G jB_takeAtSink_ok jB_takeAtSink_v lkC_63 ⟨rfl, rfl, Nat.le_of_ble_eq_true rfl, Nat.le_of_ble_eq_true rfl⟩ rfl rfl (Nat.le_of_ble_eq_true rfl) (Nat.le_of_ble_eq_true rfl) rfl rfl rfl (fun Qc qc => cB_takeAtSink kPic_B (vp_in_nI (by omega) (by decide)) qc) ?_
        rw [nI_clamp (by omega), kPic_set]
        refine mx_pop dC_shift_27 rfl ?_
        refine mx_aload_n dC_shift_28 rfl ?_
        refine mx_get 7 0 dC_shift_29 fgC_12 rfl rfl ?_
        refine mx_iload_n dC_shift_32 rfl ?_
        refine mx_aload_n dC_shift_33 rfl ?_
        refine mx_get 7 1 dC_shift_34 fgC_18 rfl rfl ?_
        refine mx_iconst (3) dC_shift_37 (by decide) ?_
        refine mx_aload_n dC_shift_38 rfl ?_
        refine mx_get 1 3 dC_shift_39 fgC_57 rfl rfl ?_
        refine mx_iload_n dC_shift_42 rfl ?_
        refine mx_iald dC_shift_43 rfl (vp_in_nI (by omega) (by decide)) ?_
        rw [nI_clamp (by omega)]
        show mx_W mx_K mT mCl jC_shift (mR 2 47) _ _ (.int (I 12 i) :: _) _ _
        refine mx_iadd dC_shift_44 ?_
        refine mx_iald dC_shift_45 rfl (hv i hi) ?_
        refine mx_V1 (R' := (mR 1 25)) [_, _] _ dC_shift_46 rfl mT_G jB_putAtSource_ok jB_putAtSource_v lkC_66 ⟨rfl, rfl, Nat.le_of_ble_eq_true rfl, Nat.le_of_ble_eq_true rfl⟩ rfl rfl (Nat.le_of_ble_eq_true rfl) (Nat.le_of_ble_eq_true rfl) rfl rfl rfl (fun Qc qc => cB_putAtSource kPic_B (vp_in_nI (by omega) (by decide)) qc) ?_
        rw [nI_clamp (by omega), kPic_set]
        first | rw [if_pos h16] at ih | rw [if_neg h16] at ih
        refine mx_iinc dC_shift_49 rfl (mx_inc _) (Nat.le_of_ble_eq_true rfl) rfl ?_
        refine mx_goto 2 dC_shift_52 rfl ?_
        exact ih
  refine mx_iconst (0) dC_shift_0 (by decide) ?_
  refine mx_istore_n dC_shift_1 (Nat.le_of_ble_eq_true rfl) rfl ?_
  refine mx_eqs rfl rfl rfl ?_ (hloop 0 (Nat.zero_le _))
  rw [lp_zero]
  unfold kPic
  rw [upI_own, upL_own]
