/-! The reference: sound, period, weight, delay, shared. -/
theorem cM_sound {c : Nat} {thr : Int32} {I : Nat → Nat → Int32} {Q : mx_O → List va_E → Prop} (hc : c ≤ 12) (hfr : ∀ w, w < 27 → I 3 w ≤ 12) (hQ : Q (.inl (some (.int (i01 (rSnd c I))))) (rp 0 (nI c) (rSnI c I))) : mx_W mx_K mT mCl jM_sound (mR 3 70) 0 [.ref 0] [] (rp thr (nI c) I) Q := by
  refine mx_aload_n dM_sound_0 rfl ?_
  refine mx_iconst (0) dM_sound_1 (by decide) ?_
  refine mx_put 8 0 (.int) dM_sound_2 fpM_49 rfl (Nat.le_of_ble_eq_true rfl) rfl rfl ?_
  refine mx_aload_n dM_sound_5 rfl ?_
  refine mx_V1 (R' := (mR 2 46)) [] _ dM_sound_6 rfl mT_G jM_isSound_ok jM_isSound_v lkM_92 ⟨rfl, rfl, Nat.le_of_ble_eq_true rfl, Nat.le_of_ble_eq_true rfl⟩ rfl rfl (Nat.le_of_ble_eq_true rfl) (Nat.le_of_ble_eq_true rfl) rfl rfl rfl (fun Qc qc => cM_isSound hc hfr qc) ?_
  refine mx_iret dM_sound_9 rfl (by cases rSnd c I <;> rfl) ?_
  exact hQ
/-- what isSound and measure leave -/
def rK (c : Nat) (I : Nat → Nat → Int32) : Nat → Nat → Int32 := upI (rSnI c I) 12 (rMeas c (rSnI c I))
def rP1 (f d : Nat → Int32) (u v : Nat) (x : Int32) : Int32 := if ¬ rWt f (u + 1) (v + 1) = 0 then x else if rDl f d (u + 1) (v + 1) ≤ x then x else rDl f d (u + 1) (v + 1)
def rPu (c : Nat) (f d : Nat → Int32) (u : Nat) (x : Int32) : Int32 := lp (rP1 f d u) c x
def rPer (c : Nat) (f d : Nat → Int32) : Int32 := lp (rPu c f d) c 0
abbrev rR3 : Type := Int32 × Int32 × (Nat → Nat → Int32)
def rPeriod (c : Nat) (I : Nat → Nat → Int32) : rR3 := if rSnd c I = true then (rPer c (rK c I 12) (rK c I 2), 0, rK c I) else (0, 1, rSnI c I)
def rWeight (c : Nat) (I : Nat → Nat → Int32) (x y : Int32) : rR3 := if qP_hasGate (nI c) x = 0 then (0, 1, I) else if qP_hasGate (nI c) y = 0 then (0, 1, I) else if rSnd c I = true then ((if ¬ rWt (rK c I 12) x.toNatClampNeg y.toNatClampNeg = 1000 then rWt (rK c I 12) x.toNatClampNeg y.toNatClampNeg else -1), 0, rK c I) else (0, 2, rSnI c I)
def rDelay (c : Nat) (I : Nat → Nat → Int32) (x y : Int32) : rR3 := if qP_hasGate (nI c) x = 0 then (0, 1, I) else if qP_hasGate (nI c) y = 0 then (0, 1, I) else if rSnd c I = true then ((if ¬ rWt (rK c I 12) x.toNatClampNeg y.toNatClampNeg = 1000 then rDl (rK c I 12) (rK c I 2) x.toNatClampNeg y.toNatClampNeg else -1), 0, rK c I) else (0, 2, rSnI c I)
def rS1 (I : Nat → Nat → Int32) (x : Int32) (j : Nat) (m : Int32) : Int32 := if x = 0 then m else if ¬ I 3 j = x then m else if I 4 j ≤ m then m else I 4 j
def xI (i : Nat) : Int32 := nI i - 3
def rSx (I : Nat → Nat → Int32) (i : Nat) (s : Int32) : Int32 := s + lp (rS1 I (xI i)) 27 0
def rShr (c : Nat) (I : Nat → Nat → Int32) : rR3 := if rSnd c I = true then (lp (rSx (rSnI c I)) (c + 4) 0, 0, rSnI c I) else (0, 1, rSnI c I)
theorem xI_toInt {i : Nat} (h : i < 100) : (xI i).toInt = (i : Int) - 3 := by
  unfold xI
  rw [Int32.toInt_sub, nI_toInt (by omega), show (3 : Int32).toInt = 3 from rfl]
  rw [Int.bmod_eq_of_le] <;> omega
theorem xI_inc (i : Nat) : xI i + Int32.ofInt 1 = xI (i + 1) := by
  unfold xI
  rw [nI_succ, show Int32.ofInt 1 = 1 from rfl]
  rw [Int32.sub_eq_add_neg, Int32.sub_eq_add_neg, Int32.add_assoc, Int32.add_comm (-3), ← Int32.add_assoc]
theorem cM_period {c : Nat} {thr : Int32} {I : Nat → Nat → Int32} {Q : mx_O → List va_E → Prop} (hc : c ≤ 12) (hfr : ∀ w, w < 27 → I 3 w ≤ 12) (hQ : Q (.inl (some (.int (rPeriod c I).1))) (rp (rPeriod c I).2.1 (nI c) (rPeriod c I).2.2)) : mx_W mx_K mT mCl jM_period (mR 3 70) 0 [.ref 0, .retAddr 0, .retAddr 0, .retAddr 0] [] (rp thr (nI c) I) Q := by
  unfold rPeriod at hQ
  have l1 : ∀ (J : Nat → Nat → Int32) (u : Nat) (x : Int32), u < c → mx_W mx_K mT mCl jM_period (mR 3 70) 87 [.ref 0, .int (rPu c (J 12) (J 2) u x), .int (nI (u + 1)), .int (nI (c + 1))] [] (rp 0 (nI c) J) Q → ∀ i, i ≤ c → mx_W mx_K mT mCl jM_period (mR 3 70) 43 [.ref 0, .int (lp (rP1 (J 12) (J 2) u) i x), .int (nI (u + 1)), .int (nI (i + 1))] [] (rp 0 (nI c) J) Q := by
    intro J u x hu hk
    refine lp_down ?_ ?_
    · refine mx_iload_n dM_period_43 rfl ?_
      refine mx_aload_n dM_period_44 rfl ?_
      refine mx_get 8 1 dM_period_45 fgM_53 rfl rfl ?_
      refine mx_icmp_gt 87 dM_period_48 rfl (fun h48 => ?_) (fun h48 => ?_)
      rotate_left
      · exact absurd (nI_lt (Nat.lt_succ_self c) (by omega)) h48
      exact hk
    · intro i hi ih
      have ih : mx_W mx_K mT mCl jM_period (mR 3 70) 43 [.ref 0, .int (rP1 (J 12) (J 2) u i (lp (rP1 (J 12) (J 2) u) i x)), .int (nI (u + 1)), .int (nI (i + 1 + 1))] [] (rp 0 (nI c) J) Q := ih
      generalize lp (rP1 (J 12) (J 2) u) i x = x at ih ⊢
      unfold rP1 at ih
      refine mx_iload_n dM_period_43 rfl ?_
      refine mx_aload_n dM_period_44 rfl ?_
      refine mx_get 8 1 dM_period_45 fgM_53 rfl rfl ?_
      refine mx_icmp_gt 87 dM_period_48 rfl (fun h48 => ?_) (fun h48 => ?_)
      · exact absurd h48 (nI_nlt (by omega) (by omega))
      refine mx_aload_n dM_period_51 rfl ?_
      refine mx_iload_n dM_period_52 rfl ?_
      refine mx_iload_n dM_period_53 rfl ?_
      refine mx_V1 (R' := (mR 0 0)) [_, _] _ dM_period_54 rfl mT_G jM_weightOf_ok jM_weightOf_v lkM_85 ⟨rfl, rfl, Nat.le_of_ble_eq_true rfl, Nat.le_of_ble_eq_true rfl⟩ rfl rfl (Nat.le_of_ble_eq_true rfl) (Nat.le_of_ble_eq_true rfl) rfl rfl rfl (fun Qc qc => cM_weightOf (by omega) (by omega) qc) ?_
      refine mx_if_ne 79 dM_period_57 rfl (fun h57 => ?_) (fun h57 => ?_)
      · refine mx_iload_n dM_period_79 rfl ?_
        first | rw [if_pos h57] at ih | rw [if_neg (fun q => q h57), if_pos h67] at ih | rw [if_neg (fun q => q h57), if_neg h67] at ih
        refine mx_istore_n dM_period_80 (Nat.le_of_ble_eq_true rfl) rfl ?_
        refine mx_iinc dM_period_81 rfl (mx_inc _) (Nat.le_of_ble_eq_true rfl) rfl ?_
        refine mx_goto 43 dM_period_84 rfl ?_
        exact ih
      · refine mx_aload_n dM_period_60 rfl ?_
        refine mx_iload_n dM_period_61 rfl ?_
        refine mx_iload_n dM_period_62 rfl ?_
        refine mx_V1 (R' := (mR 1 23)) [_, _] _ dM_period_63 rfl mT_G jM_delayOf_ok jM_delayOf_v lkM_98 ⟨rfl, rfl, Nat.le_of_ble_eq_true rfl, Nat.le_of_ble_eq_true rfl⟩ rfl rfl (Nat.le_of_ble_eq_true rfl) (Nat.le_of_ble_eq_true rfl) rfl rfl rfl (fun Qc qc => cM_delayOf (by omega) (by omega) qc) ?_
        refine mx_iload_n dM_period_66 rfl ?_
        refine mx_icmp_le 79 dM_period_67 rfl (fun h67 => ?_) (fun h67 => ?_)
        · refine mx_iload_n dM_period_79 rfl ?_
          first | rw [if_pos h57] at ih | rw [if_neg (fun q => q h57), if_pos h67] at ih | rw [if_neg (fun q => q h57), if_neg h67] at ih
          refine mx_istore_n dM_period_80 (Nat.le_of_ble_eq_true rfl) rfl ?_
          refine mx_iinc dM_period_81 rfl (mx_inc _) (Nat.le_of_ble_eq_true rfl) rfl ?_
          refine mx_goto 43 dM_period_84 rfl ?_
          exact ih
        · refine mx_aload_n dM_period_70 rfl ?_
          refine mx_iload_n dM_period_71 rfl ?_
          refine mx_iload_n dM_period_72 rfl ?_
          refine mx_V1 (R' := (mR 1 23)) [_, _] _ dM_period_73 rfl mT_G jM_delayOf_ok jM_delayOf_v lkM_98 ⟨rfl, rfl, Nat.le_of_ble_eq_true rfl, Nat.le_of_ble_eq_true rfl⟩ rfl rfl (Nat.le_of_ble_eq_true rfl) (Nat.le_of_ble_eq_true rfl) rfl rfl rfl (fun Qc qc => cM_delayOf (by omega) (by omega) qc) ?_
          refine mx_goto 80 dM_period_76 rfl ?_
          first | rw [if_pos h57] at ih | rw [if_neg (fun q => q h57), if_pos h67] at ih | rw [if_neg (fun q => q h57), if_neg h67] at ih
          refine mx_istore_n dM_period_80 (Nat.le_of_ble_eq_true rfl) rfl ?_
          refine mx_iinc dM_period_81 rfl (mx_inc _) (Nat.le_of_ble_eq_true rfl) rfl ?_
          refine mx_goto 43 dM_period_84 rfl ?_
          exact ih
  have l2 : ∀ J : Nat → Nat → Int32, Q (.inl (some (.int (rPer c (J 12) (J 2))))) (rp 0 (nI c) J) → ∀ i, i ≤ c → mx_W mx_K mT mCl jM_period (mR 3 70) 33 [.ref 0, .int (lp (rPu c (J 12) (J 2)) i 0), .int (nI (i + 1)), .retAddr 0] [] (rp 0 (nI c) J) Q := by
    intro J hq
    refine lp_down ?_ ?_
    · refine mx_iload_n dM_period_33 rfl ?_
      refine mx_aload_n dM_period_34 rfl ?_
      refine mx_get 8 1 dM_period_35 fgM_53 rfl rfl ?_
      refine mx_icmp_gt 93 dM_period_38 rfl (fun h38 => ?_) (fun h38 => ?_)
      rotate_left
      · exact absurd (nI_lt (Nat.lt_succ_self c) (by omega)) h38
      refine mx_iload_n dM_period_93 rfl ?_
      refine mx_iret dM_period_94 rfl rfl ?_
      exact hq
    · intro i hi ih
      refine mx_iload_n dM_period_33 rfl ?_
      refine mx_aload_n dM_period_34 rfl ?_
      refine mx_get 8 1 dM_period_35 fgM_53 rfl rfl ?_
      refine mx_icmp_gt 93 dM_period_38 rfl (fun h38 => ?_) (fun h38 => ?_)
      · exact absurd h38 (nI_nlt (by omega) (by omega))
      refine mx_iconst (1) dM_period_41 (by decide) ?_
      refine mx_istore_n dM_period_42 (Nat.le_of_ble_eq_true rfl) rfl ?_
      refine l1 J i _ hi ?_ 0 (Nat.zero_le _)
      refine mx_iinc dM_period_87 rfl (mx_inc _) (Nat.le_of_ble_eq_true rfl) rfl ?_
      refine mx_goto 33 dM_period_90 rfl ?_
      refine mx_drop 3 ?_
      exact ih
  refine mx_aload_n dM_period_0 rfl ?_
  refine mx_aload_n dM_period_1 rfl ?_
  refine mx_V1 (R' := (mR 2 46)) [] _ dM_period_2 rfl mT_G jM_isSound_ok jM_isSound_v lkM_92 ⟨rfl, rfl, Nat.le_of_ble_eq_true rfl, Nat.le_of_ble_eq_true rfl⟩ rfl rfl (Nat.le_of_ble_eq_true rfl) (Nat.le_of_ble_eq_true rfl) rfl rfl rfl (fun Qc qc => cM_isSound hc hfr qc) ?_
  refine mx_if_eq 12 dM_period_5 rfl (fun h5 => ?_) (fun h5 => ?_)
  · rw [i01_z h5, if_neg (by decide)] at hQ
    refine mx_iconst (1) dM_period_12 (by decide) ?_
    refine mx_put 8 0 (.int) dM_period_13 fpM_49 rfl (Nat.le_of_ble_eq_true rfl) rfl rfl ?_
    refine mx_aload_n dM_period_16 rfl ?_
    refine mx_get 8 0 dM_period_17 fgM_49 rfl rfl ?_
    refine mx_if_eq 25 dM_period_20 rfl (fun h20 => ?_) (fun h20 => ?_)
    · exact absurd h20 (by decide)
    refine mx_iconst (0) dM_period_23 (by decide) ?_
    refine mx_iret dM_period_24 rfl rfl ?_
    exact hQ
  · rw [if_pos (i01_nz h5)] at hQ
    refine mx_iconst (0) dM_period_8 (by decide) ?_
    refine mx_goto 13 dM_period_9 rfl ?_
    refine mx_put 8 0 (.int) dM_period_13 fpM_49 rfl (Nat.le_of_ble_eq_true rfl) rfl rfl ?_
    refine mx_aload_n dM_period_16 rfl ?_
    refine mx_get 8 0 dM_period_17 fgM_49 rfl rfl ?_
    refine mx_if_eq 25 dM_period_20 rfl (fun h20 => ?_) (fun h20 => ?_)
    rotate_left
    · exact absurd rfl h20
    refine mx_aload_n dM_period_25 rfl ?_
    refine mx_V1 (R' := (mR 1 20)) [] _ dM_period_26 rfl mT_G jM_measure_ok jM_measure_v lkM_95 ⟨rfl, rfl, Nat.le_of_ble_eq_true rfl, Nat.le_of_ble_eq_true rfl⟩ rfl rfl (Nat.le_of_ble_eq_true rfl) (Nat.le_of_ble_eq_true rfl) rfl rfl rfl (fun Qc qc => cM_measure hc (fun w hw => by rw [rSnI_ne (by decide)]; exact hfr w hw) qc) ?_
    refine mx_iconst (0) dM_period_29 (by decide) ?_
    refine mx_istore_n dM_period_30 (Nat.le_of_ble_eq_true rfl) rfl ?_
    refine mx_iconst (1) dM_period_31 (by decide) ?_
    refine mx_istore_n dM_period_32 (Nat.le_of_ble_eq_true rfl) rfl ?_
    exact l2 (rK c I) hQ 0 (Nat.zero_le _)
theorem cM_weight {c : Nat} {thr : Int32} {I : Nat → Nat → Int32} {Q : mx_O → List va_E → Prop} (hc : c ≤ 12) (hfr : ∀ w, w < 27 → I 3 w ≤ 12) {x y : Int32} (hQ : Q (.inl (some (.int (rWeight c I x y).1))) (rp (rWeight c I x y).2.1 (nI c) (rWeight c I x y).2.2)) : mx_W mx_K mT mCl jM_weight (mR 3 70) 0 [.ref 0, .int x, .int y] [] (rp thr (nI c) I) Q := by
  unfold rWeight at hQ
  refine mx_aload_n dM_weight_0 rfl ?_
  refine mx_aload_n dM_weight_1 rfl ?_
  refine mx_iload_n dM_weight_2 rfl ?_
  refine mx_V1 (R' := (mR 0 0)) [_] _ dM_weight_3 rfl mT_G jM_isGate_ok jM_isGate_v lkM_60 ⟨rfl, rfl, Nat.le_of_ble_eq_true rfl, Nat.le_of_ble_eq_true rfl⟩ rfl rfl (Nat.le_of_ble_eq_true rfl) (Nat.le_of_ble_eq_true rfl) rfl rfl rfl (fun Qc qc => cM_isGate qc) ?_
  refine mx_if_eq 17 dM_weight_6 rfl (fun h6 => ?_) (fun h6 => ?_)
  · refine mx_iconst (1) dM_weight_17 (by decide) ?_
    refine mx_goto 33 dM_weight_18 rfl ?_
    refine mx_put 8 0 (.int) dM_weight_33 fpM_49 rfl (Nat.le_of_ble_eq_true rfl) rfl rfl ?_
    refine mx_aload_n dM_weight_36 rfl ?_
    refine mx_get 8 0 dM_weight_37 fgM_49 rfl rfl ?_
    refine mx_if_eq 45 dM_weight_40 rfl (fun h40 => ?_) (fun h40 => ?_)
    · exact absurd h40 (by decide)
    refine mx_iconst (0) dM_weight_43 (by decide) ?_
    refine mx_iret dM_weight_44 rfl rfl ?_
    first | (rw [if_pos h6] at hQ; exact hQ) | (rw [if_neg h6, if_pos h14] at hQ; exact hQ)
  · refine mx_aload_n dM_weight_9 rfl ?_
    refine mx_iload_n dM_weight_10 rfl ?_
    refine mx_V1 (R' := (mR 0 0)) [_] _ dM_weight_11 rfl mT_G jM_isGate_ok jM_isGate_v lkM_60 ⟨rfl, rfl, Nat.le_of_ble_eq_true rfl, Nat.le_of_ble_eq_true rfl⟩ rfl rfl (Nat.le_of_ble_eq_true rfl) (Nat.le_of_ble_eq_true rfl) rfl rfl rfl (fun Qc qc => cM_isGate qc) ?_
    refine mx_if_ne 21 dM_weight_14 rfl (fun h14 => ?_) (fun h14 => ?_)
    · refine mx_aload_n dM_weight_21 rfl ?_
      refine mx_V1 (R' := (mR 2 46)) [] _ dM_weight_22 rfl mT_G jM_isSound_ok jM_isSound_v lkM_92 ⟨rfl, rfl, Nat.le_of_ble_eq_true rfl, Nat.le_of_ble_eq_true rfl⟩ rfl rfl (Nat.le_of_ble_eq_true rfl) (Nat.le_of_ble_eq_true rfl) rfl rfl rfl (fun Qc qc => cM_isSound hc hfr qc) ?_
      refine mx_if_eq 32 dM_weight_25 rfl (fun h25 => ?_) (fun h25 => ?_)
      · rw [if_neg h6, if_neg h14, i01_z h25, if_neg (by decide)] at hQ
        refine mx_iconst (2) dM_weight_32 (by decide) ?_
        refine mx_put 8 0 (.int) dM_weight_33 fpM_49 rfl (Nat.le_of_ble_eq_true rfl) rfl rfl ?_
        refine mx_aload_n dM_weight_36 rfl ?_
        refine mx_get 8 0 dM_weight_37 fgM_49 rfl rfl ?_
        refine mx_if_eq 45 dM_weight_40 rfl (fun h40 => ?_) (fun h40 => ?_)
        · exact absurd h40 (by decide)
        refine mx_iconst (0) dM_weight_43 (by decide) ?_
        refine mx_iret dM_weight_44 rfl rfl ?_
        exact hQ
      · rw [if_neg h6, if_neg h14, if_pos (i01_nz h25)] at hQ
        obtain ⟨u, hu1, hu2, rfl⟩ := hasG hc h6
        obtain ⟨v, hv1, hv2, rfl⟩ := hasG hc h14
        rw [nI_clamp (by omega), nI_clamp (by omega)] at hQ
        refine mx_iconst (0) dM_weight_28 (by decide) ?_
        refine mx_goto 33 dM_weight_29 rfl ?_
        refine mx_put 8 0 (.int) dM_weight_33 fpM_49 rfl (Nat.le_of_ble_eq_true rfl) rfl rfl ?_
        refine mx_aload_n dM_weight_36 rfl ?_
        refine mx_get 8 0 dM_weight_37 fgM_49 rfl rfl ?_
        refine mx_if_eq 45 dM_weight_40 rfl (fun h40 => ?_) (fun h40 => ?_)
        rotate_left
        · exact absurd rfl h40
        refine mx_aload_n dM_weight_45 rfl ?_
        refine mx_V1 (R' := (mR 1 20)) [] _ dM_weight_46 rfl mT_G jM_measure_ok jM_measure_v lkM_95 ⟨rfl, rfl, Nat.le_of_ble_eq_true rfl, Nat.le_of_ble_eq_true rfl⟩ rfl rfl (Nat.le_of_ble_eq_true rfl) (Nat.le_of_ble_eq_true rfl) rfl rfl rfl (fun Qc qc => cM_measure hc (fun w hw => by rw [rSnI_ne (by decide)]; exact hfr w hw) qc) ?_
        refine mx_aload_n dM_weight_49 rfl ?_
        refine mx_iload_n dM_weight_50 rfl ?_
        refine mx_iload_n dM_weight_51 rfl ?_
        refine mx_V1 (R' := (mR 0 0)) [_, _] _ dM_weight_52 rfl mT_G jM_weightOf_ok jM_weightOf_v lkM_85 ⟨rfl, rfl, Nat.le_of_ble_eq_true rfl, Nat.le_of_ble_eq_true rfl⟩ rfl rfl (Nat.le_of_ble_eq_true rfl) (Nat.le_of_ble_eq_true rfl) rfl rfl rfl (fun Qc qc => cM_weightOf (by omega) (by omega) qc) ?_
        refine mx_sipush (1000) dM_weight_55 (by decide) ?_
        refine mx_icmp_ne 65 dM_weight_58 rfl (fun h58 => ?_) (fun h58 => ?_)
        · refine mx_aload_n dM_weight_65 rfl ?_
          refine mx_iload_n dM_weight_66 rfl ?_
          refine mx_iload_n dM_weight_67 rfl ?_
          refine mx_V1 (R' := (mR 0 0)) [_, _] _ dM_weight_68 rfl mT_G jM_weightOf_ok jM_weightOf_v lkM_85 ⟨rfl, rfl, Nat.le_of_ble_eq_true rfl, Nat.le_of_ble_eq_true rfl⟩ rfl rfl (Nat.le_of_ble_eq_true rfl) (Nat.le_of_ble_eq_true rfl) rfl rfl rfl (fun Qc qc => cM_weightOf (by omega) (by omega) qc) ?_
          refine mx_iret dM_weight_71 rfl rfl ?_
          first | (have h58 : ¬ rWt (rK c I 12) u v = 1000 := h58; rw [if_pos h58] at hQ; exact hQ) | (have h58 : rWt (rK c I 12) u v = 1000 := h58; rw [if_neg (fun q => q h58)] at hQ; exact hQ)
        · refine mx_iconst (-1) dM_weight_61 (by decide) ?_
          refine mx_goto 71 dM_weight_62 rfl ?_
          refine mx_iret dM_weight_71 rfl rfl ?_
          first | (have h58 : ¬ rWt (rK c I 12) u v = 1000 := h58; rw [if_pos h58] at hQ; exact hQ) | (have h58 : rWt (rK c I 12) u v = 1000 := h58; rw [if_neg (fun q => q h58)] at hQ; exact hQ)
    · refine mx_iconst (1) dM_weight_17 (by decide) ?_
      refine mx_goto 33 dM_weight_18 rfl ?_
      refine mx_put 8 0 (.int) dM_weight_33 fpM_49 rfl (Nat.le_of_ble_eq_true rfl) rfl rfl ?_
      refine mx_aload_n dM_weight_36 rfl ?_
      refine mx_get 8 0 dM_weight_37 fgM_49 rfl rfl ?_
      refine mx_if_eq 45 dM_weight_40 rfl (fun h40 => ?_) (fun h40 => ?_)
      · exact absurd h40 (by decide)
      refine mx_iconst (0) dM_weight_43 (by decide) ?_
      refine mx_iret dM_weight_44 rfl rfl ?_
      first | (rw [if_pos h6] at hQ; exact hQ) | (rw [if_neg h6, if_pos h14] at hQ; exact hQ)
theorem cM_delay {c : Nat} {thr : Int32} {I : Nat → Nat → Int32} {Q : mx_O → List va_E → Prop} (hc : c ≤ 12) (hfr : ∀ w, w < 27 → I 3 w ≤ 12) {x y : Int32} (hQ : Q (.inl (some (.int (rDelay c I x y).1))) (rp (rDelay c I x y).2.1 (nI c) (rDelay c I x y).2.2)) : mx_W mx_K mT mCl jM_delay (mR 3 70) 0 [.ref 0, .int x, .int y] [] (rp thr (nI c) I) Q := by
  unfold rDelay at hQ
  refine mx_aload_n dM_delay_0 rfl ?_
  refine mx_aload_n dM_delay_1 rfl ?_
  refine mx_iload_n dM_delay_2 rfl ?_
  refine mx_V1 (R' := (mR 0 0)) [_] _ dM_delay_3 rfl mT_G jM_isGate_ok jM_isGate_v lkM_60 ⟨rfl, rfl, Nat.le_of_ble_eq_true rfl, Nat.le_of_ble_eq_true rfl⟩ rfl rfl (Nat.le_of_ble_eq_true rfl) (Nat.le_of_ble_eq_true rfl) rfl rfl rfl (fun Qc qc => cM_isGate qc) ?_
  refine mx_if_eq 17 dM_delay_6 rfl (fun h6 => ?_) (fun h6 => ?_)
  · refine mx_iconst (1) dM_delay_17 (by decide) ?_
    refine mx_goto 33 dM_delay_18 rfl ?_
    refine mx_put 8 0 (.int) dM_delay_33 fpM_49 rfl (Nat.le_of_ble_eq_true rfl) rfl rfl ?_
    refine mx_aload_n dM_delay_36 rfl ?_
    refine mx_get 8 0 dM_delay_37 fgM_49 rfl rfl ?_
    refine mx_if_eq 45 dM_delay_40 rfl (fun h40 => ?_) (fun h40 => ?_)
    · exact absurd h40 (by decide)
    refine mx_iconst (0) dM_delay_43 (by decide) ?_
    refine mx_iret dM_delay_44 rfl rfl ?_
    first | (rw [if_pos h6] at hQ; exact hQ) | (rw [if_neg h6, if_pos h14] at hQ; exact hQ)
  · refine mx_aload_n dM_delay_9 rfl ?_
    refine mx_iload_n dM_delay_10 rfl ?_
    refine mx_V1 (R' := (mR 0 0)) [_] _ dM_delay_11 rfl mT_G jM_isGate_ok jM_isGate_v lkM_60 ⟨rfl, rfl, Nat.le_of_ble_eq_true rfl, Nat.le_of_ble_eq_true rfl⟩ rfl rfl (Nat.le_of_ble_eq_true rfl) (Nat.le_of_ble_eq_true rfl) rfl rfl rfl (fun Qc qc => cM_isGate qc) ?_
    refine mx_if_ne 21 dM_delay_14 rfl (fun h14 => ?_) (fun h14 => ?_)
    · refine mx_aload_n dM_delay_21 rfl ?_
      refine mx_V1 (R' := (mR 2 46)) [] _ dM_delay_22 rfl mT_G jM_isSound_ok jM_isSound_v lkM_92 ⟨rfl, rfl, Nat.le_of_ble_eq_true rfl, Nat.le_of_ble_eq_true rfl⟩ rfl rfl (Nat.le_of_ble_eq_true rfl) (Nat.le_of_ble_eq_true rfl) rfl rfl rfl (fun Qc qc => cM_isSound hc hfr qc) ?_
      refine mx_if_eq 32 dM_delay_25 rfl (fun h25 => ?_) (fun h25 => ?_)
      · rw [if_neg h6, if_neg h14, i01_z h25, if_neg (by decide)] at hQ
        refine mx_iconst (2) dM_delay_32 (by decide) ?_
        refine mx_put 8 0 (.int) dM_delay_33 fpM_49 rfl (Nat.le_of_ble_eq_true rfl) rfl rfl ?_
        refine mx_aload_n dM_delay_36 rfl ?_
        refine mx_get 8 0 dM_delay_37 fgM_49 rfl rfl ?_
        refine mx_if_eq 45 dM_delay_40 rfl (fun h40 => ?_) (fun h40 => ?_)
        · exact absurd h40 (by decide)
        refine mx_iconst (0) dM_delay_43 (by decide) ?_
        refine mx_iret dM_delay_44 rfl rfl ?_
        exact hQ
      · rw [if_neg h6, if_neg h14, if_pos (i01_nz h25)] at hQ
        obtain ⟨u, hu1, hu2, rfl⟩ := hasG hc h6
        obtain ⟨v, hv1, hv2, rfl⟩ := hasG hc h14
        rw [nI_clamp (by omega), nI_clamp (by omega)] at hQ
        refine mx_iconst (0) dM_delay_28 (by decide) ?_
        refine mx_goto 33 dM_delay_29 rfl ?_
        refine mx_put 8 0 (.int) dM_delay_33 fpM_49 rfl (Nat.le_of_ble_eq_true rfl) rfl rfl ?_
        refine mx_aload_n dM_delay_36 rfl ?_
        refine mx_get 8 0 dM_delay_37 fgM_49 rfl rfl ?_
        refine mx_if_eq 45 dM_delay_40 rfl (fun h40 => ?_) (fun h40 => ?_)
        rotate_left
        · exact absurd rfl h40
        refine mx_aload_n dM_delay_45 rfl ?_
        refine mx_V1 (R' := (mR 1 20)) [] _ dM_delay_46 rfl mT_G jM_measure_ok jM_measure_v lkM_95 ⟨rfl, rfl, Nat.le_of_ble_eq_true rfl, Nat.le_of_ble_eq_true rfl⟩ rfl rfl (Nat.le_of_ble_eq_true rfl) (Nat.le_of_ble_eq_true rfl) rfl rfl rfl (fun Qc qc => cM_measure hc (fun w hw => by rw [rSnI_ne (by decide)]; exact hfr w hw) qc) ?_
        refine mx_aload_n dM_delay_49 rfl ?_
        refine mx_iload_n dM_delay_50 rfl ?_
        refine mx_iload_n dM_delay_51 rfl ?_
        refine mx_V1 (R' := (mR 0 0)) [_, _] _ dM_delay_52 rfl mT_G jM_weightOf_ok jM_weightOf_v lkM_85 ⟨rfl, rfl, Nat.le_of_ble_eq_true rfl, Nat.le_of_ble_eq_true rfl⟩ rfl rfl (Nat.le_of_ble_eq_true rfl) (Nat.le_of_ble_eq_true rfl) rfl rfl rfl (fun Qc qc => cM_weightOf (by omega) (by omega) qc) ?_
        refine mx_sipush (1000) dM_delay_55 (by decide) ?_
        refine mx_icmp_ne 65 dM_delay_58 rfl (fun h58 => ?_) (fun h58 => ?_)
        · refine mx_aload_n dM_delay_65 rfl ?_
          refine mx_iload_n dM_delay_66 rfl ?_
          refine mx_iload_n dM_delay_67 rfl ?_
          refine mx_V1 (R' := (mR 1 23)) [_, _] _ dM_delay_68 rfl mT_G jM_delayOf_ok jM_delayOf_v lkM_98 ⟨rfl, rfl, Nat.le_of_ble_eq_true rfl, Nat.le_of_ble_eq_true rfl⟩ rfl rfl (Nat.le_of_ble_eq_true rfl) (Nat.le_of_ble_eq_true rfl) rfl rfl rfl (fun Qc qc => cM_delayOf (by omega) (by omega) qc) ?_
          refine mx_iret dM_delay_71 rfl rfl ?_
          first | (have h58 : ¬ rWt (rK c I 12) u v = 1000 := h58; rw [if_pos h58] at hQ; exact hQ) | (have h58 : rWt (rK c I 12) u v = 1000 := h58; rw [if_neg (fun q => q h58)] at hQ; exact hQ)
        · refine mx_iconst (-1) dM_delay_61 (by decide) ?_
          refine mx_goto 71 dM_delay_62 rfl ?_
          refine mx_iret dM_delay_71 rfl rfl ?_
          first | (have h58 : ¬ rWt (rK c I 12) u v = 1000 := h58; rw [if_pos h58] at hQ; exact hQ) | (have h58 : rWt (rK c I 12) u v = 1000 := h58; rw [if_neg (fun q => q h58)] at hQ; exact hQ)
    · refine mx_iconst (1) dM_delay_17 (by decide) ?_
      refine mx_goto 33 dM_delay_18 rfl ?_
      refine mx_put 8 0 (.int) dM_delay_33 fpM_49 rfl (Nat.le_of_ble_eq_true rfl) rfl rfl ?_
      refine mx_aload_n dM_delay_36 rfl ?_
      refine mx_get 8 0 dM_delay_37 fgM_49 rfl rfl ?_
      refine mx_if_eq 45 dM_delay_40 rfl (fun h40 => ?_) (fun h40 => ?_)
      · exact absurd h40 (by decide)
      refine mx_iconst (0) dM_delay_43 (by decide) ?_
      refine mx_iret dM_delay_44 rfl rfl ?_
      first | (rw [if_pos h6] at hQ; exact hQ) | (rw [if_neg h6, if_pos h14] at hQ; exact hQ)
theorem cM_shared {c : Nat} {thr : Int32} {I : Nat → Nat → Int32} {Q : mx_O → List va_E → Prop} (hc : c ≤ 12) (hfr : ∀ w, w < 27 → I 3 w ≤ 12) (hQ : Q (.inl (some (.int (rShr c I).1))) (rp (rShr c I).2.1 (nI c) (rShr c I).2.2)) : mx_W mx_K mT mCl jM_shared (mR 3 70) 0 [.ref 0, .retAddr 0, .retAddr 0, .retAddr 0, .retAddr 0] [] (rp thr (nI c) I) Q := by
  unfold rShr at hQ
  have l1 : ∀ (J : Nat → Nat → Int32) (s x : Int32), mx_W mx_K mT mCl jM_shared (mR 3 70) 92 [.ref 0, .int (s), .int (x), .int (lp (rS1 J x) 27 0), .int (nI 27)] [] (rp 0 (nI c) J) Q → ∀ i, i ≤ 27 → mx_W mx_K mT mCl jM_shared (mR 3 70) 41 [.ref 0, .int (s), .int (x), .int (lp (rS1 J x) i 0), .int (nI i)] [] (rp 0 (nI c) J) Q := by
    intro J s x hk
    refine lp_down ?_ ?_
    · refine mx_iload dM_shared_41 rfl ?_
      refine mx_bipush (27) dM_shared_43 (by decide) ?_
      refine mx_icmp_ge 92 dM_shared_45 rfl (fun h45 => ?_) (fun h45 => ?_)
      rotate_left
      · exact absurd (show (27 : Int32) ≤ nI 27 by decide) h45
      exact hk
    · intro i hi ih
      have ih : mx_W mx_K mT mCl jM_shared (mR 3 70) 41 [.ref 0, .int (s), .int (x), .int (rS1 J x i (lp (rS1 J x) i 0)), .int (nI (i + 1))] [] (rp 0 (nI c) J) Q := ih
      generalize lp (rS1 J x) i 0 = m at ih ⊢
      unfold rS1 at ih
      refine mx_iload dM_shared_41 rfl ?_
      refine mx_bipush (27) dM_shared_43 (by decide) ?_
      refine mx_icmp_ge 92 dM_shared_45 rfl (fun h45 => ?_) (fun h45 => ?_)
      · exact absurd h45 (nI_ge (b := 27) hi (by decide))
      refine mx_iload_n dM_shared_48 rfl ?_
      refine mx_if_eq 84 dM_shared_49 rfl (fun h49 => ?_) (fun h49 => ?_)
      · refine mx_iload_n dM_shared_84 rfl ?_
        first | rw [if_pos h49] at ih | rw [if_neg h49, if_pos h60] at ih | rw [if_neg h49, if_neg (fun q => q h60), if_pos h71] at ih | rw [if_neg h49, if_neg (fun q => q h60), if_neg h71] at ih
        try rw [nI_clamp (by omega)]
        refine mx_istore_n dM_shared_85 (Nat.le_of_ble_eq_true rfl) rfl ?_
        refine mx_iinc dM_shared_86 rfl (mx_inc _) (Nat.le_of_ble_eq_true rfl) rfl ?_
        refine mx_goto 41 dM_shared_89 rfl ?_
        exact ih
      · refine mx_aload_n dM_shared_52 rfl ?_
        refine mx_get 8 4 dM_shared_53 fgM_16 rfl rfl ?_
        refine mx_iload dM_shared_56 rfl ?_
        refine mx_iald dM_shared_58 rfl (vp_in_nI (by omega) (by decide)) ?_
        rw [nI_clamp (by omega)]
        try simp only [upI_self]
        refine mx_iload_n dM_shared_59 rfl ?_
        refine mx_icmp_ne 84 dM_shared_60 rfl (fun h60 => ?_) (fun h60 => ?_)
        · refine mx_iload_n dM_shared_84 rfl ?_
          first | rw [if_pos h49] at ih | rw [if_neg h49, if_pos h60] at ih | rw [if_neg h49, if_neg (fun q => q h60), if_pos h71] at ih | rw [if_neg h49, if_neg (fun q => q h60), if_neg h71] at ih
          try rw [nI_clamp (by omega)]
          refine mx_istore_n dM_shared_85 (Nat.le_of_ble_eq_true rfl) rfl ?_
          refine mx_iinc dM_shared_86 rfl (mx_inc _) (Nat.le_of_ble_eq_true rfl) rfl ?_
          refine mx_goto 41 dM_shared_89 rfl ?_
          exact ih
        · refine mx_aload_n dM_shared_63 rfl ?_
          refine mx_get 8 5 dM_shared_64 fgM_19 rfl rfl ?_
          refine mx_iload dM_shared_67 rfl ?_
          refine mx_iald dM_shared_69 rfl (vp_in_nI (by omega) (by decide)) ?_
          rw [nI_clamp (by omega)]
          try simp only [upI_self]
          refine mx_iload_n dM_shared_70 rfl ?_
          refine mx_icmp_le 84 dM_shared_71 rfl (fun h71 => ?_) (fun h71 => ?_)
          · refine mx_iload_n dM_shared_84 rfl ?_
            first | rw [if_pos h49] at ih | rw [if_neg h49, if_pos h60] at ih | rw [if_neg h49, if_neg (fun q => q h60), if_pos h71] at ih | rw [if_neg h49, if_neg (fun q => q h60), if_neg h71] at ih
            try rw [nI_clamp (by omega)]
            refine mx_istore_n dM_shared_85 (Nat.le_of_ble_eq_true rfl) rfl ?_
            refine mx_iinc dM_shared_86 rfl (mx_inc _) (Nat.le_of_ble_eq_true rfl) rfl ?_
            refine mx_goto 41 dM_shared_89 rfl ?_
            exact ih
          · refine mx_aload_n dM_shared_74 rfl ?_
            refine mx_get 8 5 dM_shared_75 fgM_19 rfl rfl ?_
            refine mx_iload dM_shared_78 rfl ?_
            refine mx_iald dM_shared_80 rfl (vp_in_nI (by omega) (by decide)) ?_
            rw [nI_clamp (by omega)]
            try simp only [upI_self]
            refine mx_goto 85 dM_shared_81 rfl ?_
            first | rw [if_pos h49] at ih | rw [if_neg h49, if_pos h60] at ih | rw [if_neg h49, if_neg (fun q => q h60), if_pos h71] at ih | rw [if_neg h49, if_neg (fun q => q h60), if_neg h71] at ih
            try rw [nI_clamp (by omega)]
            refine mx_istore_n dM_shared_85 (Nat.le_of_ble_eq_true rfl) rfl ?_
            refine mx_iinc dM_shared_86 rfl (mx_inc _) (Nat.le_of_ble_eq_true rfl) rfl ?_
            refine mx_goto 41 dM_shared_89 rfl ?_
            exact ih
  have l2 : ∀ J : Nat → Nat → Int32, Q (.inl (some (.int (lp (rSx J) (c + 4) 0)))) (rp 0 (nI c) J) → ∀ i, i ≤ c + 4 → mx_W mx_K mT mCl jM_shared (mR 3 70) 21 [.ref 0, .int (lp (rSx J) i 0), .int (xI i), .retAddr 0, .retAddr 0] [] (rp 0 (nI c) J) Q := by
    intro J hq
    refine lp_down ?_ ?_
    · refine mx_iload_n dM_shared_21 rfl ?_
      refine mx_aload_n dM_shared_22 rfl ?_
      refine mx_get 8 1 dM_shared_23 fgM_53 rfl rfl ?_
      refine mx_icmp_gt 102 dM_shared_26 rfl (fun h26 => ?_) (fun h26 => ?_)
      rotate_left
      · exact absurd (show nI c < xI (c + 4) by rw [Int32.lt_iff_toInt_lt, nI_toInt (by omega), xI_toInt (by omega)]; omega) h26
      refine mx_iload_n dM_shared_102 rfl ?_
      refine mx_iret dM_shared_103 rfl rfl ?_
      exact hq
    · intro i hi ih
      have ih : mx_W mx_K mT mCl jM_shared (mR 3 70) 21 [.ref 0, .int (lp (rSx J) i 0 + lp (rS1 J (xI i)) 27 0), .int (xI (i + 1)), .retAddr 0, .retAddr 0] [] (rp 0 (nI c) J) Q := ih
      generalize lp (rSx J) i 0 = s at ih ⊢
      refine mx_iload_n dM_shared_21 rfl ?_
      refine mx_aload_n dM_shared_22 rfl ?_
      refine mx_get 8 1 dM_shared_23 fgM_53 rfl rfl ?_
      refine mx_icmp_gt 102 dM_shared_26 rfl (fun h26 => ?_) (fun h26 => ?_)
      · exact absurd h26 (by rw [Int32.lt_iff_toInt_lt, nI_toInt (by omega), xI_toInt (by omega)]; omega)
      refine mx_aload_n dM_shared_29 rfl ?_
      refine mx_get 8 0 dM_shared_30 fgM_49 rfl rfl ?_
      refine mx_if_ne 102 dM_shared_33 rfl (fun h33 => ?_) (fun h33 => ?_)
      · exact absurd rfl h33
      refine mx_iconst (0) dM_shared_36 (by decide) ?_
      refine mx_istore_n dM_shared_37 (Nat.le_of_ble_eq_true rfl) rfl ?_
      refine mx_iconst (0) dM_shared_38 (by decide) ?_
      refine mx_istore dM_shared_39 (Nat.le_of_ble_eq_true rfl) rfl ?_
      refine l1 J s (xI i) ?_ 0 (Nat.zero_le _)
      refine mx_iload_n dM_shared_92 rfl ?_
      refine mx_iload_n dM_shared_93 rfl ?_
      refine mx_iadd dM_shared_94 ?_
      refine mx_istore_n dM_shared_95 (Nat.le_of_ble_eq_true rfl) rfl ?_
      refine mx_iinc dM_shared_96 rfl (xI_inc _) (Nat.le_of_ble_eq_true rfl) rfl ?_
      refine mx_goto 21 dM_shared_99 rfl ?_
      refine mx_drop 3 ?_
      refine mx_drop 4 ?_
      exact ih
  refine mx_aload_n dM_shared_0 rfl ?_
  refine mx_aload_n dM_shared_1 rfl ?_
  refine mx_V1 (R' := (mR 2 46)) [] _ dM_shared_2 rfl mT_G jM_isSound_ok jM_isSound_v lkM_92 ⟨rfl, rfl, Nat.le_of_ble_eq_true rfl, Nat.le_of_ble_eq_true rfl⟩ rfl rfl (Nat.le_of_ble_eq_true rfl) (Nat.le_of_ble_eq_true rfl) rfl rfl rfl (fun Qc qc => cM_isSound hc hfr qc) ?_
  refine mx_if_eq 12 dM_shared_5 rfl (fun h5 => ?_) (fun h5 => ?_)
  · rw [i01_z h5, if_neg (by decide)] at hQ
    refine mx_iconst (1) dM_shared_12 (by decide) ?_
    refine mx_put 8 0 (.int) dM_shared_13 fpM_49 rfl (Nat.le_of_ble_eq_true rfl) rfl rfl ?_
    refine mx_iconst (0) dM_shared_16 (by decide) ?_
    refine mx_istore_n dM_shared_17 (Nat.le_of_ble_eq_true rfl) rfl ?_
    refine mx_bipush (-3) dM_shared_18 (by decide) ?_
    refine mx_istore_n dM_shared_20 (Nat.le_of_ble_eq_true rfl) rfl ?_
    refine mx_iload_n dM_shared_21 rfl ?_
    refine mx_aload_n dM_shared_22 rfl ?_
    refine mx_get 8 1 dM_shared_23 fgM_53 rfl rfl ?_
    refine mx_icmp_gt 102 dM_shared_26 rfl (fun h26 => ?_) (fun h26 => ?_)
    · exact absurd h26 (by rw [Int32.lt_iff_toInt_lt, nI_toInt (by omega)]; show ¬ (c : Int) < -3; omega)
    refine mx_aload_n dM_shared_29 rfl ?_
    refine mx_get 8 0 dM_shared_30 fgM_49 rfl rfl ?_
    refine mx_if_ne 102 dM_shared_33 rfl (fun h33 => ?_) (fun h33 => ?_)
    rotate_left
    · exact absurd h33 (by decide)
    refine mx_iload_n dM_shared_102 rfl ?_
    refine mx_iret dM_shared_103 rfl rfl ?_
    exact hQ
  · rw [if_pos (i01_nz h5)] at hQ
    refine mx_iconst (0) dM_shared_8 (by decide) ?_
    refine mx_goto 13 dM_shared_9 rfl ?_
    refine mx_put 8 0 (.int) dM_shared_13 fpM_49 rfl (Nat.le_of_ble_eq_true rfl) rfl rfl ?_
    refine mx_iconst (0) dM_shared_16 (by decide) ?_
    refine mx_istore_n dM_shared_17 (Nat.le_of_ble_eq_true rfl) rfl ?_
    refine mx_bipush (-3) dM_shared_18 (by decide) ?_
    refine mx_istore_n dM_shared_20 (Nat.le_of_ble_eq_true rfl) rfl ?_
    exact l2 (rSnI c I) hQ 0 (Nat.zero_le _)
