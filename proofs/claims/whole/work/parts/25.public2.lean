/-! MovedRegisters: shared, retime, least, tick. -/
def aMost (I : Nat → Nat → Int32) (x : Int32) : Int32 := lp (fun w m => if ¬ I 12 w = x then m else if m < I 13 w then I 13 w else m) 27 0
theorem cA_mostFrom {c : Nat} {fil : Int32} {I : Nat → Nat → Int32} {L : Nat → Nat → Int64} {Q : mx_O → List va_E → Prop} {x : Int32} (hQ : Q (.inl (some (.int (aMost I x)))) (pic (nI c) fil I L)) : mx_W mx_K mT mCl jA_mostFrom (mR 1 24) 0 [.ref 0, .int x, .retAddr 0, .retAddr 0] [] (pic (nI c) fil I L) Q := by
  have hloop : ∀ i, i ≤ 27 → mx_W mx_K mT mCl jA_mostFrom (mR 1 24) 4 [.ref 0, .int x, .int (lp (fun w m => if ¬ I 12 w = x then m else if m < I 13 w then I 13 w else m) i 0), .int (nI i)] [] (pic (nI c) fil I L) Q := by
    refine lp_down ?_ ?_
    · refine mx_iload_n dA_mostFrom_4 rfl ?_
      refine mx_bipush (27) dA_mostFrom_5 (by decide) ?_
      refine mx_icmp_ge 42 dA_mostFrom_7 rfl (fun h7 => ?_) (fun h7 => ?_)
      rotate_left
      · exact absurd (show (27 : Int32) ≤ nI 27 by decide) h7
      refine mx_iload_n dA_mostFrom_42 rfl ?_
      refine mx_iret dA_mostFrom_43 rfl rfl ?_
      unfold aMost at hQ
      exact hQ
    · intro i hi ih
      have ih : mx_W mx_K mT mCl jA_mostFrom (mR 1 24) 4 [.ref 0, .int x, .int ((fun w m => if ¬ I 12 w = x then m else if m < I 13 w then I 13 w else m) i (lp (fun w m => if ¬ I 12 w = x then m else if m < I 13 w then I 13 w else m) i 0)), .int (nI (i + 1))] [] (pic (nI c) fil I L) Q := ih
      generalize lp (fun w m => if ¬ I 12 w = x then m else if m < I 13 w then I 13 w else m) i 0 = m at ih ⊢
      dsimp only at ih
      refine mx_iload_n dA_mostFrom_4 rfl ?_
      refine mx_bipush (27) dA_mostFrom_5 (by decide) ?_
      refine mx_icmp_ge 42 dA_mostFrom_7 rfl (fun h7 => ?_) (fun h7 => ?_)
      · exact absurd h7 (nI_ge (b := 27) hi (by decide))
      refine mx_aload_n dA_mostFrom_10 rfl ?_
      refine mx_get 0 0 dA_mostFrom_11 fgA_12 rfl rfl ?_
      refine mx_get 1 3 dA_mostFrom_14 fgA_94 rfl rfl ?_
      refine mx_iload_n dA_mostFrom_17 rfl ?_
      refine mx_iald dA_mostFrom_18 rfl (vp_in_nI (by omega) (by decide)) ?_
      rw [nI_clamp (by omega)]
      refine mx_iload_n dA_mostFrom_19 rfl ?_
      refine mx_icmp_ne 36 dA_mostFrom_20 rfl (fun h20 => ?_) (fun h20 => ?_)
      · first | rw [if_pos h20] at ih | rw [if_neg (fun e => e h20)] at ih
        refine mx_iinc dA_mostFrom_36 rfl (mx_inc _) (Nat.le_of_ble_eq_true rfl) rfl ?_
        refine mx_goto 4 dA_mostFrom_39 rfl ?_
        exact ih
      · refine mx_iload_n dA_mostFrom_23 rfl ?_
        refine mx_aload_n dA_mostFrom_24 rfl ?_
        refine mx_get 0 1 dA_mostFrom_25 fgA_19 rfl rfl ?_
        refine mx_iload_n dA_mostFrom_28 rfl ?_
        refine mx_V1 (R' := (mR 0 0)) [_] _ dA_mostFrom_29 rfl mT_G jB_length_ok jB_length_v lkA_117 ⟨rfl, rfl, Nat.le_of_ble_eq_true rfl, Nat.le_of_ble_eq_true rfl⟩ rfl rfl (Nat.le_of_ble_eq_true rfl) (Nat.le_of_ble_eq_true rfl) rfl rfl rfl (fun Qc qc => cB_length pic_B (vp_in_nI (by omega) (by decide)) qc) ?_
        rw [nI_clamp (by omega)]
        refine mx_max dA_mostFrom_32 (mT_3 (i := 83) rfl rfl) (mT_1 (i := 235) rfl rfl) (mT_1 (i := 17) rfl rfl) (mT_1 (i := 236) rfl rfl) (Nat.le_of_ble_eq_true rfl) (Nat.le_of_ble_eq_true rfl) ?_
        refine mx_istore_n dA_mostFrom_35 (Nat.le_of_ble_eq_true rfl) rfl ?_
        first | rw [if_pos h20] at ih | rw [if_neg (fun e => e h20)] at ih
        refine mx_iinc dA_mostFrom_36 rfl (mx_inc _) (Nat.le_of_ble_eq_true rfl) rfl ?_
        refine mx_goto 4 dA_mostFrom_39 rfl ?_
        exact ih
  refine mx_iconst (0) dA_mostFrom_0 (by decide) ?_
  refine mx_istore_n dA_mostFrom_1 (Nat.le_of_ble_eq_true rfl) rfl ?_
  refine mx_iconst (0) dA_mostFrom_2 (by decide) ?_
  refine mx_istore_n dA_mostFrom_3 (Nat.le_of_ble_eq_true rfl) rfl ?_
  exact hloop 0 (Nat.zero_le _)
def aSum (c : Nat) (I : Nat → Nat → Int32) : Int32 := lp (fun i s => s + aMost I (nI i - 3)) (c + 4) 0
def aShr (c : Nat) (fil : Int32) (I : Nat → Nat → Int32) (L : Nat → Nat → Int64) : aR := if sndB c I = true then (.inl (some (.int (aSum c (oI c I)))), pic (nI c) (nI c) (oI c I) L) else (.inr 3, sndH c fil I L)
theorem shr_inc (i : Nat) : nI i - 3 + Int32.ofInt 1 = nI (i + 1) - 3 := by
  rw [nI_succ, show Int32.ofInt 1 = 1 from rfl, Int32.sub_eq_add_neg, Int32.sub_eq_add_neg, Int32.add_assoc, Int32.add_assoc, Int32.add_comm (-3) 1]
theorem shr_lt {c i : Nat} (hc : c ≤ 12) (hi : i ≤ 16) : nI c < nI i - 3 ↔ c + 3 < i := by
  rw [show (3 : Int32) = nI 3 from rfl, Int32.lt_iff_toInt_lt, pk_sub_toInt (by omega) (by decide), nI_toInt (by omega)]
  omega
theorem cA_shared {c : Nat} {fil : Int32} {I : Nat → Nat → Int32} {L : Nat → Nat → Int64} {Q : mx_O → List va_E → Prop} (hc : c ≤ 12) (hsr : ∀ w, w < 27 → I 12 w ≤ 12) (hQ : Q (aShr c fil I L).1 (aShr c fil I L).2) : mx_W mx_K mT mCl jA_shared (mRT 7 156) 0 [.ref 0, .retAddr 0, .retAddr 0] [] (pic (nI c) fil I L) Q := by
  unfold aShr at hQ
  cases e : sndB c I with
  | false =>
    rw [e] at hQ
    refine mx_aload_n dA_shared_0 rfl ?_
    refine mx_VT1 (R' := (mRT 6 136)) [] _ dA_shared_1 rfl mT_G jA_needSound_ok jA_needSound_v (mT_2 (i := 206) rfl rfl) ⟨Nat.le_of_ble_eq_true rfl, Nat.le_of_ble_eq_true rfl, Nat.le_of_ble_eq_true rfl, Nat.le_of_ble_eq_true rfl⟩ rfl rfl (Nat.le_of_ble_eq_true rfl) (Nat.le_of_ble_eq_true rfl) rfl rfl rfl (fun Qc qc => cA_needSoundT hc hsr e qc) ?_
    exact hQ
  | true =>
    rw [e] at hQ
    have hloop : ∀ i, i ≤ c + 4 → mx_W mx_K mT mCl jA_shared (mRT 7 156) 9 [.ref 0, .int (lp (fun i s => s + aMost (oI c I) (nI i - 3)) i 0), .int (nI i - 3)] [] (pic (nI c) (nI c) (oI c I) L) Q := by
      refine lp_down ?_ ?_
      · refine mx_iload_n dA_shared_9 rfl ?_
        refine mx_aload_n dA_shared_10 rfl ?_
        refine mx_get 0 0 dA_shared_11 fgA_12 rfl rfl ?_
        refine mx_get 1 0 dA_shared_14 fgA_68 rfl rfl ?_
        refine mx_icmp_gt 34 dA_shared_17 rfl (fun h17 => ?_) (fun h17 => ?_)
        rotate_left
        · exact absurd ((shr_lt hc (by omega)).mpr (by omega)) h17
        refine mx_iload_n dA_shared_34 rfl ?_
        refine mx_iret dA_shared_35 rfl rfl ?_
        exact hQ
      · intro i hi ih
        refine mx_iload_n dA_shared_9 rfl ?_
        refine mx_aload_n dA_shared_10 rfl ?_
        refine mx_get 0 0 dA_shared_11 fgA_12 rfl rfl ?_
        refine mx_get 1 0 dA_shared_14 fgA_68 rfl rfl ?_
        refine mx_icmp_gt 34 dA_shared_17 rfl (fun h17 => ?_) (fun h17 => ?_)
        · exact absurd ((shr_lt hc (by omega)).mp h17) (by omega)
        refine mx_iload_n dA_shared_20 rfl ?_
        refine mx_aload_n dA_shared_21 rfl ?_
        refine mx_iload_n dA_shared_22 rfl ?_
        refine mx_V1 (R' := (mR 1 24)) [_] _ dA_shared_23 rfl mT_G jA_mostFrom_ok jA_mostFrom_v lkA_154 ⟨rfl, rfl, Nat.le_of_ble_eq_true rfl, Nat.le_of_ble_eq_true rfl⟩ rfl rfl (Nat.le_of_ble_eq_true rfl) (Nat.le_of_ble_eq_true rfl) rfl rfl rfl (fun Qc qc => cA_mostFrom qc) ?_
        refine mx_iadd dA_shared_26 ?_
        refine mx_istore_n dA_shared_27 (Nat.le_of_ble_eq_true rfl) rfl ?_
        refine mx_iinc dA_shared_28 rfl (shr_inc i) (Nat.le_of_ble_eq_true rfl) rfl ?_
        refine mx_goto 9 dA_shared_31 rfl ?_
        exact ih
    refine mx_aload_n dA_shared_0 rfl ?_
    refine mx_V1 (R' := (mR 6 136)) [] _ dA_shared_1 rfl mT_G jA_needSound_ok jA_needSound_v lkA_125 ⟨rfl, rfl, Nat.le_of_ble_eq_true rfl, Nat.le_of_ble_eq_true rfl⟩ rfl rfl (Nat.le_of_ble_eq_true rfl) (Nat.le_of_ble_eq_true rfl) rfl rfl rfl (fun Qc qc => cA_needSound hc hsr e qc) ?_
    refine mx_iconst (0) dA_shared_4 (by decide) ?_
    refine mx_istore_n dA_shared_5 (Nat.le_of_ble_eq_true rfl) rfl ?_
    refine mx_bipush (-3) dA_shared_6 (by decide) ?_
    refine mx_istore_n dA_shared_8 (Nat.le_of_ble_eq_true rfl) rfl ?_
    refine mx_eqs rfl ?_ rfl rfl (hloop 0 (Nat.zero_le _))
    rw [show nI 0 - 3 = -3 from by decide]
    rfl
def mI (I : Nat → Nat → Int32) (s : mS) : Nat → Nat → Int32 := upI (upI I 23 s.2) 15 s.1.1
def mL (L : Nat → Nat → Int64) (s : mS) : Nat → Nat → Int64 := upL L 16 s.1.2
def vI1 (c : Nat) (hi : Int32) (I : Nat → Nat → Int32) : Nat → Nat → Int32 := upI (upI I 21 (lSol c hi I).1) 15 (I 13)
def vL1 (L : Nat → Nat → Int64) : Nat → Nat → Int64 := upL L 16 (L 14)
/-- behind moves on the trial bank -/
def vF (c : Nat) (hi : Int32) (I : Nat → Nat → Int32) (L : Nat → Nat → Int64) : mS × Bool := mFol c (vI1 c hi I) (vL1 L)
def vI2 (c : Nat) (hi : Int32) (I : Nat → Nat → Int32) (L : Nat → Nat → Int64) : Nat → Nat → Int32 := mI (vI1 c hi I) (vF c hi I L).1
def vL2 (c : Nat) (hi : Int32) (I : Nat → Nat → Int32) (L : Nat → Nat → Int64) : Nat → Nat → Int64 := mL (vL1 L) (vF c hi I L).1
def vI3 (c : Nat) (I : Nat → Nat → Int32) : Nat → Nat → Int32 := upI (upI I 13 (I 15)) 9 (va_cpy (I 21) (I 9) 0 0 (c + 1))
def vL3 (L : Nat → Nat → Int64) : Nat → Nat → Int64 := upL L 14 (L 16)
/-- what moveUpTo answers and leaves -/
def aMv (c : Nat) (hi : Int32) (I : Nat → Nat → Int32) (L : Nat → Nat → Int64) : Bool × (Nat → Nat → Int32) × (Nat → Nat → Int64) := if (lSol c hi I).2 = true then (if (vF c hi I L).2 = true then (true, begI (vI3 c (vI2 c hi I L)), begL (vL3 (vL2 c hi I L))) else (false, vI2 c hi I L, vL2 c hi I L)) else (false, upI I 21 (lSol c hi I).1, L)
theorem cA_moveUpTo {c : Nat} {fil : Int32} {I : Nat → Nat → Int32} {L : Nat → Nat → Int64} {Q : mx_O → List va_E → Prop} (hc : c ≤ 12) {hi : Int32} (hQ : Q (.inl (some (.int (i01 (aMv c hi I L).1)))) (pic (nI c) fil (aMv c hi I L).2.1 (aMv c hi I L).2.2)) : mx_W mx_K mT mCl jA_moveUpTo (mR 5 122) 0 [.ref 0, .int hi] [] (pic (nI c) fil I L) Q := by
  unfold aMv at hQ
  refine mx_aload_n dA_moveUpTo_0 rfl ?_
  refine mx_get 0 5 dA_moveUpTo_1 fgA_43 rfl rfl ?_
  refine mx_aload_n dA_moveUpTo_4 rfl ?_
  refine mx_get 0 0 dA_moveUpTo_5 fgA_12 rfl rfl ?_
  refine mx_get 1 0 dA_moveUpTo_8 fgA_68 rfl rfl ?_
  refine mx_iload_n dA_moveUpTo_11 rfl ?_
  refine mx_V1 (R' := (mR 1 24)) [_, _] _ dA_moveUpTo_12 rfl mT_G jL_solve_ok jL_solve_v lkA_150 ⟨rfl, rfl, Nat.le_of_ble_eq_true rfl, Nat.le_of_ble_eq_true rfl⟩ rfl rfl (Nat.le_of_ble_eq_true rfl) (Nat.le_of_ble_eq_true rfl) rfl rfl rfl (fun Qc qc => cL_solve hc qc) ?_
  refine mx_if_ne 20 dA_moveUpTo_15 rfl (fun h15 => ?_) (fun h15 => ?_)
  · refine mx_aload_n dA_moveUpTo_20 rfl ?_
    refine mx_get 0 2 dA_moveUpTo_21 fgA_23 rfl rfl ?_
    refine mx_aload_n dA_moveUpTo_24 rfl ?_
    refine mx_get 0 1 dA_moveUpTo_25 fgA_19 rfl rfl ?_
    refine mx_V1 (R' := (mR 1 60)) [_] _ dA_moveUpTo_28 rfl mT_G jB_copy_ok jB_copy_v lkA_193 ⟨rfl, rfl, Nat.le_of_ble_eq_true rfl, Nat.le_of_ble_eq_true rfl⟩ rfl rfl (Nat.le_of_ble_eq_true rfl) (Nat.le_of_ble_eq_true rfl) rfl rfl rfl (fun Qc qc => cB_copy pic_T pic_B (by decide) (by decide) qc) ?_
    refine mx_eqs (hp' := pic (nI c) fil (vI1 c hi I) (vL1 L)) rfl rfl rfl rfl ?_
    refine mx_aload_n dA_moveUpTo_31 rfl ?_
    refine mx_get 0 6 dA_moveUpTo_32 fgA_50 rfl rfl ?_
    refine mx_aload_n dA_moveUpTo_35 rfl ?_
    refine mx_get 0 0 dA_moveUpTo_36 fgA_12 rfl rfl ?_
    refine mx_aload_n dA_moveUpTo_39 rfl ?_
    refine mx_get 0 2 dA_moveUpTo_40 fgA_23 rfl rfl ?_
    refine mx_aload_n dA_moveUpTo_43 rfl ?_
    refine mx_get 0 5 dA_moveUpTo_44 fgA_43 rfl rfl ?_
    refine mx_get 5 0 dA_moveUpTo_47 fgA_196 rfl rfl ?_
    refine mx_V1 (R' := (mR 4 98)) [_, _, _] _ dA_moveUpTo_50 rfl mT_G jV_follow_ok jV_follow_v lkA_199 ⟨rfl, rfl, Nat.le_of_ble_eq_true rfl, Nat.le_of_ble_eq_true rfl⟩ rfl rfl (Nat.le_of_ble_eq_true rfl) (Nat.le_of_ble_eq_true rfl) rfl rfl rfl (fun Qc qc => cV_follow hc qc) ?_
    show mx_W mx_K mT mCl jA_moveUpTo (mR 5 122) _ _ (.int (i01 (vF c hi I L).2) :: _) (pic (nI c) fil (vI2 c hi I L) (vL2 c hi I L)) _
    refine mx_if_ne 58 dA_moveUpTo_53 rfl (fun h53 => ?_) (fun h53 => ?_)
    · refine mx_aload_n dA_moveUpTo_58 rfl ?_
      refine mx_get 0 1 dA_moveUpTo_59 fgA_19 rfl rfl ?_
      refine mx_aload_n dA_moveUpTo_62 rfl ?_
      refine mx_get 0 2 dA_moveUpTo_63 fgA_23 rfl rfl ?_
      refine mx_V1 (R' := (mR 1 60)) [_] _ dA_moveUpTo_66 rfl mT_G jB_copy_ok jB_copy_v lkA_193 ⟨rfl, rfl, Nat.le_of_ble_eq_true rfl, Nat.le_of_ble_eq_true rfl⟩ rfl rfl (Nat.le_of_ble_eq_true rfl) (Nat.le_of_ble_eq_true rfl) rfl rfl rfl (fun Qc qc => cB_copy pic_B pic_T (by decide) (by decide) qc) ?_
      refine mx_eqs (hp' := pic (nI c) fil (upI (vI2 c hi I L) 13 (vI2 c hi I L 15)) (vL3 (vL2 c hi I L))) rfl rfl rfl rfl ?_
      refine mx_aload_n dA_moveUpTo_69 rfl ?_
      refine mx_get 0 5 dA_moveUpTo_70 fgA_43 rfl rfl ?_
      refine mx_get 5 0 dA_moveUpTo_73 fgA_196 rfl rfl ?_
      refine mx_iconst (0) dA_moveUpTo_76 (by decide) ?_
      refine mx_aload_n dA_moveUpTo_77 rfl ?_
      refine mx_get 0 8 dA_moveUpTo_78 fgA_61 rfl rfl ?_
      refine mx_iconst (0) dA_moveUpTo_81 (by decide) ?_
      refine mx_aload_n dA_moveUpTo_82 rfl ?_
      refine mx_get 0 0 dA_moveUpTo_83 fgA_12 rfl rfl ?_
      refine mx_get 1 0 dA_moveUpTo_86 fgA_68 rfl rfl ?_
      refine mx_iconst (1) dA_moveUpTo_89 (by decide) ?_
      refine mx_iadd dA_moveUpTo_90 ?_
      rw [show nI c + 1 = nI (c + 1) from nI_1 c]
      refine mx_copyi dA_moveUpTo_91 (mT_3 (i := 158) rfl rfl) (mT_2 (i := 15) rfl rfl) (mT_2 (i := 14) rfl rfl) (mT_1 (i := 15) rfl rfl) (b0 := 21) (b1 := 9) rfl rfl (by decide) (by decide) (nI_pos (by omega)) (by rw [nI_clamp (by omega), sb_cl0]; omega) (by rw [nI_clamp (by omega), sb_cl0]; omega) (Nat.le_of_ble_eq_true rfl) (Nat.le_of_ble_eq_true rfl) ?_
      rw [nI_clamp (by omega), sb_cl0]
      refine mx_eqs (hp' := pic (nI c) fil (vI3 c (vI2 c hi I L)) (vL3 (vL2 c hi I L))) rfl rfl rfl rfl ?_
      refine mx_aload_n dA_moveUpTo_94 rfl ?_
      refine mx_get 0 7 dA_moveUpTo_95 fgA_57 rfl rfl ?_
      refine mx_aload_n dA_moveUpTo_98 rfl ?_
      refine mx_get 0 1 dA_moveUpTo_99 fgA_19 rfl rfl ?_
      refine mx_V1 (R' := (mR 2 81)) [_] _ dA_moveUpTo_102 rfl mT_G jC_begin_ok jC_begin_v lkA_79 ⟨rfl, rfl, Nat.le_of_ble_eq_true rfl, Nat.le_of_ble_eq_true rfl⟩ rfl rfl (Nat.le_of_ble_eq_true rfl) (Nat.le_of_ble_eq_true rfl) rfl rfl rfl (fun Qc qc => cC_begin (bs := 24) (kv0 := 25) (kl := 65) (kv := 66) (kl2 := 13) (kv2 := 14) rfl pic_S pic_B (by decide) (by decide) qc) ?_
      rw [pic_beg]
      refine mx_iconst (1) dA_moveUpTo_105 (by decide) ?_
      refine mx_iret dA_moveUpTo_106 rfl rfl ?_
      rw [if_pos (i01_nz h15), if_pos (i01_nz h53)] at hQ
      exact hQ
    · refine mx_iconst (0) dA_moveUpTo_56 (by decide) ?_
      refine mx_iret dA_moveUpTo_57 rfl rfl ?_
      rw [if_pos (i01_nz h15), if_neg (by rw [i01_z h53]; decide)] at hQ
      exact hQ
  · refine mx_iconst (0) dA_moveUpTo_18 (by decide) ?_
    refine mx_iret dA_moveUpTo_19 rfl rfl ?_
    rw [if_neg (by rw [i01_z h15]; decide)] at hQ
    exact hQ
def rI (c : Nat) (k : Int32) (I : Nat → Nat → Int32) : Nat → Nat → Int32 := lSet c k (aI2 c I)
def aRet (c : Nat) (fil : Int32) (I : Nat → Nat → Int32) (L : Nat → Nat → Int64) (k : Int32) : aR := if sndB c I = true then (if k < 0 then (.inr 0, pic (nI c) (nI c) (oI c I) L) else if ¬ k ≤ 600 then (.inr 0, pic (nI c) (nI c) (oI c I) L) else if (aMv c 6 (rI c k I) L).1 = true then (.inl (some (.int 2)), pic (nI c) (nI c) (aMv c 6 (rI c k I) L).2.1 (aMv c 6 (rI c k I) L).2.2)
  else if (aMv c 0 (aMv c 6 (rI c k I) L).2.1 (aMv c 6 (rI c k I) L).2.2).1 = true then (.inl (some (.int 1)), pic (nI c) (nI c) (aMv c 0 (aMv c 6 (rI c k I) L).2.1 (aMv c 6 (rI c k I) L).2.2).2.1 (aMv c 0 (aMv c 6 (rI c k I) L).2.1 (aMv c 6 (rI c k I) L).2.2).2.2)
  else (.inl (some (.int 0)), pic (nI c) (nI c) (aMv c 0 (aMv c 6 (rI c k I) L).2.1 (aMv c 6 (rI c k I) L).2.2).2.1 (aMv c 0 (aMv c 6 (rI c k I) L).2.1 (aMv c 6 (rI c k I) L).2.2).2.2)) else (.inr 3, sndH c fil I L)
theorem aI2_12 (c : Nat) (I : Nat → Nat → Int32) : aI2 c I 12 = I 12 := by
  unfold aI2
  rw [hMeas_low (by decide)]
  rfl
theorem cA_retime {c : Nat} {fil : Int32} {I : Nat → Nat → Int32} {L : Nat → Nat → Int64} {Q : mx_O → List va_E → Prop} (hc : c ≤ 12) (hsr : ∀ w, w < 27 → I 12 w ≤ 12) {k : Int32} (hQ : Q (aRet c fil I L k).1 (aRet c fil I L k).2) : mx_W mx_K mT mCl jA_retime (mRT 7 156) 0 [.ref 0, .int k] [] (pic (nI c) fil I L) Q := by
  unfold aRet at hQ
  cases e : sndB c I with
  | false =>
    rw [e] at hQ
    refine mx_aload_n dA_retime_0 rfl ?_
    refine mx_VT1 (R' := (mRT 6 136)) [] _ dA_retime_1 rfl mT_G jA_needSound_ok jA_needSound_v (mT_2 (i := 206) rfl rfl) ⟨Nat.le_of_ble_eq_true rfl, Nat.le_of_ble_eq_true rfl, Nat.le_of_ble_eq_true rfl, Nat.le_of_ble_eq_true rfl⟩ rfl rfl (Nat.le_of_ble_eq_true rfl) (Nat.le_of_ble_eq_true rfl) rfl rfl rfl (fun Qc qc => cA_needSoundT hc hsr e qc) ?_
    exact hQ
  | true =>
    rw [e, if_pos rfl] at hQ
    refine mx_aload_n dA_retime_0 rfl ?_
    refine mx_V1 (R' := (mR 6 136)) [] _ dA_retime_1 rfl mT_G jA_needSound_ok jA_needSound_v lkA_125 ⟨rfl, rfl, Nat.le_of_ble_eq_true rfl, Nat.le_of_ble_eq_true rfl⟩ rfl rfl (Nat.le_of_ble_eq_true rfl) (Nat.le_of_ble_eq_true rfl) rfl rfl rfl (fun Qc qc => cA_needSound hc hsr e qc) ?_
    refine mx_iload_n dA_retime_4 rfl ?_
    refine mx_if_lt 15 dA_retime_5 rfl (fun h5 => ?_) (fun h5 => ?_)
    · refine mx_throw 0 dA_retime_15 dA_retime_18 dA_retime_19 dA_retime_22 mT_G (mT_2 (i := 25) rfl rfl) (mT_2 (i := 26) rfl rfl) (mT_1 (i := 13) rfl rfl) (by decide +kernel) (tw_of tw_67) (Nat.le_of_ble_eq_true rfl) (Nat.le_of_ble_eq_true rfl) (Nat.le_refl _) (Nat.le_refl _) ?_
      first | (rw [if_pos h5] at hQ; exact hQ) | (rw [if_neg h5, if_pos h12] at hQ; exact hQ)
    · refine mx_iload_n dA_retime_8 rfl ?_
      refine mx_sipush (600) dA_retime_9 (by decide) ?_
      refine mx_icmp_le 23 dA_retime_12 rfl (fun h12 => ?_) (fun h12 => ?_)
      · rw [if_neg h5, if_neg (fun z => z h12)] at hQ
        refine mx_aload_n dA_retime_23 rfl ?_
        refine mx_get 0 4 dA_retime_24 fgA_36 rfl rfl ?_
        refine mx_aload_n dA_retime_27 rfl ?_
        refine mx_get 0 0 dA_retime_28 fgA_12 rfl rfl ?_
        refine mx_aload_n dA_retime_31 rfl ?_
        refine mx_get 0 1 dA_retime_32 fgA_19 rfl rfl ?_
        refine mx_V1 (R' := (mR 3 70)) [_, _] _ dA_retime_35 rfl mT_G jH_measure_ok jH_measure_v lkA_128 ⟨rfl, rfl, Nat.le_of_ble_eq_true rfl, Nat.le_of_ble_eq_true rfl⟩ rfl rfl (Nat.le_of_ble_eq_true rfl) (Nat.le_of_ble_eq_true rfl) rfl rfl rfl (fun Qc qc => cH_measure (I := oI c I) hc hsr qc) ?_
        refine mx_aload_n dA_retime_38 rfl ?_
        refine mx_get 0 5 dA_retime_39 fgA_43 rfl rfl ?_
        refine mx_aload_n dA_retime_42 rfl ?_
        refine mx_get 0 0 dA_retime_43 fgA_12 rfl rfl ?_
        refine mx_aload_n dA_retime_46 rfl ?_
        refine mx_get 0 1 dA_retime_47 fgA_19 rfl rfl ?_
        refine mx_aload_n dA_retime_50 rfl ?_
        refine mx_get 0 4 dA_retime_51 fgA_36 rfl rfl ?_
        refine mx_iload_n dA_retime_54 rfl ?_
        refine mx_V1 (R' := (mR 3 72)) [_, _, _, _] _ dA_retime_55 rfl mT_G jL_set_ok jL_set_v lkA_146 ⟨rfl, rfl, Nat.le_of_ble_eq_true rfl, Nat.le_of_ble_eq_true rfl⟩ rfl rfl (Nat.le_of_ble_eq_true rfl) (Nat.le_of_ble_eq_true rfl) rfl rfl rfl (fun Qc qc => cL_set (I := aI2 c I) hc (fun w hw => by rw [aI2_12]; exact hsr w hw) qc) ?_
        refine mx_aload_n dA_retime_58 rfl ?_
        refine mx_bipush (6) dA_retime_59 (by decide) ?_
        refine mx_V1 (R' := (mR 5 122)) [_] _ dA_retime_61 rfl mT_G jA_moveUpTo_ok jA_moveUpTo_v lkA_157 ⟨rfl, rfl, Nat.le_of_ble_eq_true rfl, Nat.le_of_ble_eq_true rfl⟩ rfl rfl (Nat.le_of_ble_eq_true rfl) (Nat.le_of_ble_eq_true rfl) rfl rfl rfl (fun Qc qc => cA_moveUpTo (I := rI c k I) hc qc) ?_
        refine mx_if_eq 69 dA_retime_64 rfl (fun h64 => ?_) (fun h64 => ?_)
        · refine mx_aload_n dA_retime_69 rfl ?_
          refine mx_iconst (0) dA_retime_70 (by decide) ?_
          refine mx_V1 (R' := (mR 5 122)) [_] _ dA_retime_71 rfl mT_G jA_moveUpTo_ok jA_moveUpTo_v lkA_157 ⟨rfl, rfl, Nat.le_of_ble_eq_true rfl, Nat.le_of_ble_eq_true rfl⟩ rfl rfl (Nat.le_of_ble_eq_true rfl) (Nat.le_of_ble_eq_true rfl) rfl rfl rfl (fun Qc qc => cA_moveUpTo hc qc) ?_
          refine mx_if_eq 81 dA_retime_74 rfl (fun h74 => ?_) (fun h74 => ?_)
          · refine mx_iconst (0) dA_retime_81 (by decide) ?_
            refine mx_iret dA_retime_82 rfl rfl ?_
            rw [if_neg (by rw [i01_z h64]; decide)] at hQ
            first | (rw [if_pos (i01_nz h74)] at hQ; exact hQ) | (rw [if_neg (by rw [i01_z h74]; decide)] at hQ; exact hQ)
          · refine mx_iconst (1) dA_retime_77 (by decide) ?_
            refine mx_goto 82 dA_retime_78 rfl ?_
            refine mx_iret dA_retime_82 rfl rfl ?_
            rw [if_neg (by rw [i01_z h64]; decide)] at hQ
            first | (rw [if_pos (i01_nz h74)] at hQ; exact hQ) | (rw [if_neg (by rw [i01_z h74]; decide)] at hQ; exact hQ)
        · refine mx_iconst (2) dA_retime_67 (by decide) ?_
          refine mx_iret dA_retime_68 rfl rfl ?_
          rw [if_pos (i01_nz h64)] at hQ
          exact hQ
      · refine mx_throw 0 dA_retime_15 dA_retime_18 dA_retime_19 dA_retime_22 mT_G (mT_2 (i := 25) rfl rfl) (mT_2 (i := 26) rfl rfl) (mT_1 (i := 13) rfl rfl) (by decide +kernel) (tw_of tw_67) (Nat.le_of_ble_eq_true rfl) (Nat.le_of_ble_eq_true rfl) (Nat.le_refl _) (Nat.le_refl _) ?_
        first | (rw [if_pos h5] at hQ; exact hQ) | (rw [if_neg h5, if_pos h12] at hQ; exact hQ)
def aLs (c : Nat) : Nat → Int32 → Int32 → (Nat → Nat → Int32) → Int32 × (Nat → Nat → Int32)
  | 0, _, hi, I => (hi, I)
  | n + 1, lo, hi, I => if hi ≤ lo then (hi, I) else if (lSol c 6 (lSet c ((lo + hi) / 2) I)).2 = true then aLs c n lo ((lo + hi) / 2) (upI (lSet c ((lo + hi) / 2) I) 21 (lSol c 6 (lSet c ((lo + hi) / 2) I)).1) else aLs c n ((lo + hi) / 2 + 1) hi (upI (lSet c ((lo + hi) / 2) I) 21 (lSol c 6 (lSet c ((lo + hi) / 2) I)).1)
def aLst (c : Nat) (fil : Int32) (I : Nat → Nat → Int32) (L : Nat → Nat → Int64) : aR := if sndB c I = true then (.inl (some (.int (aLs c 600 0 (hLu c (aI2 c I)) (aI2 c I)).1)), pic (nI c) (nI c) (aLs c 600 0 (hLu c (aI2 c I)) (aI2 c I)).2 L) else (.inr 3, sndH c fil I L)
theorem cA_least {c : Nat} {fil : Int32} {I : Nat → Nat → Int32} {L : Nat → Nat → Int64} {Q : mx_O → List va_E → Prop} (hc : c ≤ 12) (hsr : ∀ w, w < 27 → I 12 w ≤ 12) (hQ : Q (aLst c fil I L).1 (aLst c fil I L).2) : mx_W mx_K mT mCl jA_least (mRT 7 156) 0 [.ref 0, .retAddr 0, .retAddr 0, .retAddr 0, .retAddr 0] [] (pic (nI c) fil I L) Q := by
  unfold aLst at hQ
  cases e : sndB c I with
  | false =>
    rw [e] at hQ
    refine mx_aload_n dA_least_0 rfl ?_
    refine mx_VT1 (R' := (mRT 6 136)) [] _ dA_least_1 rfl mT_G jA_needSound_ok jA_needSound_v (mT_2 (i := 206) rfl rfl) ⟨Nat.le_of_ble_eq_true rfl, Nat.le_of_ble_eq_true rfl, Nat.le_of_ble_eq_true rfl, Nat.le_of_ble_eq_true rfl⟩ rfl rfl (Nat.le_of_ble_eq_true rfl) (Nat.le_of_ble_eq_true rfl) rfl rfl rfl (fun Qc qc => cA_needSoundT hc hsr e qc) ?_
    exact hQ
  | true =>
    rw [e, if_pos rfl] at hQ
    have hloop : ∀ r, r ≤ 600 → ∀ (lo hi : Int32) (I : Nat → Nat → Int32), (∀ w, w < 27 → I 12 w ≤ 12) → Q (.inl (some (.int (aLs c (600 - r) lo hi I).1))) (pic (nI c) (nI c) (aLs c (600 - r) lo hi I).2 L) → mx_W mx_K mT mCl jA_least (mRT 7 156) 38 [.ref 0, .int lo, .int hi, .int (nI r), .retAddr 0] [] (pic (nI c) (nI c) I L) Q := by
      refine lp_down ?_ ?_
      · intro lo hi I hsr hq
        rw [Nat.sub_self] at hq
        refine mx_iload_n dA_least_38 rfl ?_
        refine mx_sipush (600) dA_least_39 (by decide) ?_
        refine mx_icmp_ge 114 dA_least_42 rfl (fun h42 => ?_) (fun h42 => ?_)
        rotate_left
        · exact absurd (show (600 : Int32) ≤ nI 600 by decide) h42
        refine mx_iload_n dA_least_114 rfl ?_
        refine mx_iret dA_least_115 rfl rfl ?_
        exact hq
      · intro r hr ih lo hi I hsr hq
        rw [show 600 - r = (600 - (r + 1)) + 1 by omega] at hq
        unfold aLs at hq
        refine mx_iload_n dA_least_38 rfl ?_
        refine mx_sipush (600) dA_least_39 (by decide) ?_
        refine mx_icmp_ge 114 dA_least_42 rfl (fun h42 => ?_) (fun h42 => ?_)
        · exact absurd h42 (nI_ge (b := 600) hr (by decide))
        refine mx_iload_n dA_least_45 rfl ?_
        refine mx_iload_n dA_least_46 rfl ?_
        refine mx_icmp_ge 114 dA_least_47 rfl (fun h47 => ?_) (fun h47 => ?_)
        · refine mx_iload_n dA_least_114 rfl ?_
          refine mx_iret dA_least_115 rfl rfl ?_
          rw [if_pos h47] at hq
          exact hq
        · refine mx_iload_n dA_least_50 rfl ?_
          refine mx_iload_n dA_least_51 rfl ?_
          refine mx_iadd dA_least_52 ?_
          refine mx_iconst (2) dA_least_53 (by decide) ?_
          refine mx_idiv dA_least_54 (by decide) ?_
          refine mx_istore dA_least_55 (Nat.le_of_ble_eq_true rfl) rfl ?_
          refine mx_aload_n dA_least_57 rfl ?_
          refine mx_get 0 5 dA_least_58 fgA_43 rfl rfl ?_
          refine mx_aload_n dA_least_61 rfl ?_
          refine mx_get 0 0 dA_least_62 fgA_12 rfl rfl ?_
          refine mx_aload_n dA_least_65 rfl ?_
          refine mx_get 0 1 dA_least_66 fgA_19 rfl rfl ?_
          refine mx_aload_n dA_least_69 rfl ?_
          refine mx_get 0 4 dA_least_70 fgA_36 rfl rfl ?_
          refine mx_iload dA_least_73 rfl ?_
          refine mx_V1 (R' := (mR 3 72)) [_, _, _, _] _ dA_least_75 rfl mT_G jL_set_ok jL_set_v lkA_146 ⟨rfl, rfl, Nat.le_of_ble_eq_true rfl, Nat.le_of_ble_eq_true rfl⟩ rfl rfl (Nat.le_of_ble_eq_true rfl) (Nat.le_of_ble_eq_true rfl) rfl rfl rfl (fun Qc qc => cL_set hc hsr qc) ?_
          refine mx_aload_n dA_least_78 rfl ?_
          refine mx_get 0 5 dA_least_79 fgA_43 rfl rfl ?_
          refine mx_aload_n dA_least_82 rfl ?_
          refine mx_get 0 0 dA_least_83 fgA_12 rfl rfl ?_
          refine mx_get 1 0 dA_least_86 fgA_68 rfl rfl ?_
          refine mx_bipush (6) dA_least_89 (by decide) ?_
          refine mx_V1 (R' := (mR 1 24)) [_, _] _ dA_least_91 rfl mT_G jL_solve_ok jL_solve_v lkA_150 ⟨rfl, rfl, Nat.le_of_ble_eq_true rfl, Nat.le_of_ble_eq_true rfl⟩ rfl rfl (Nat.le_of_ble_eq_true rfl) (Nat.le_of_ble_eq_true rfl) rfl rfl rfl (fun Qc qc => cL_solve hc qc) ?_
          refine mx_if_eq 103 dA_least_94 rfl (fun h94 => ?_) (fun h94 => ?_)
          · refine mx_iload dA_least_103 rfl ?_
            refine mx_iconst (1) dA_least_105 (by decide) ?_
            refine mx_iadd dA_least_106 ?_
            refine mx_istore_n dA_least_107 (Nat.le_of_ble_eq_true rfl) rfl ?_
            rw [if_neg h47] at hq
            first | rw [if_pos (i01_nz h94)] at hq | rw [if_neg (by rw [i01_z h94]; decide)] at hq
            refine mx_iinc dA_least_108 rfl (mx_inc _) (Nat.le_of_ble_eq_true rfl) rfl ?_
            refine mx_goto 38 dA_least_111 rfl ?_
            refine mx_drop 4 ?_
            refine ih _ _ _ (fun w hw => ?_) hq
            rw [upI_ne _ _ (by decide), lSet_low (by decide)]
            exact hsr w hw
          · refine mx_iload dA_least_97 rfl ?_
            refine mx_istore_n dA_least_99 (Nat.le_of_ble_eq_true rfl) rfl ?_
            refine mx_goto 108 dA_least_100 rfl ?_
            rw [if_neg h47] at hq
            first | rw [if_pos (i01_nz h94)] at hq | rw [if_neg (by rw [i01_z h94]; decide)] at hq
            refine mx_iinc dA_least_108 rfl (mx_inc _) (Nat.le_of_ble_eq_true rfl) rfl ?_
            refine mx_goto 38 dA_least_111 rfl ?_
            refine mx_drop 4 ?_
            refine ih _ _ _ (fun w hw => ?_) hq
            rw [upI_ne _ _ (by decide), lSet_low (by decide)]
            exact hsr w hw
    refine mx_aload_n dA_least_0 rfl ?_
    refine mx_V1 (R' := (mR 6 136)) [] _ dA_least_1 rfl mT_G jA_needSound_ok jA_needSound_v lkA_125 ⟨rfl, rfl, Nat.le_of_ble_eq_true rfl, Nat.le_of_ble_eq_true rfl⟩ rfl rfl (Nat.le_of_ble_eq_true rfl) (Nat.le_of_ble_eq_true rfl) rfl rfl rfl (fun Qc qc => cA_needSound hc hsr e qc) ?_
    refine mx_aload_n dA_least_4 rfl ?_
    refine mx_get 0 4 dA_least_5 fgA_36 rfl rfl ?_
    refine mx_aload_n dA_least_8 rfl ?_
    refine mx_get 0 0 dA_least_9 fgA_12 rfl rfl ?_
    refine mx_aload_n dA_least_12 rfl ?_
    refine mx_get 0 1 dA_least_13 fgA_19 rfl rfl ?_
    refine mx_V1 (R' := (mR 3 70)) [_, _] _ dA_least_16 rfl mT_G jH_measure_ok jH_measure_v lkA_128 ⟨rfl, rfl, Nat.le_of_ble_eq_true rfl, Nat.le_of_ble_eq_true rfl⟩ rfl rfl (Nat.le_of_ble_eq_true rfl) (Nat.le_of_ble_eq_true rfl) rfl rfl rfl (fun Qc qc => cH_measure (I := oI c I) hc hsr qc) ?_
    refine mx_iconst (0) dA_least_19 (by decide) ?_
    refine mx_istore_n dA_least_20 (Nat.le_of_ble_eq_true rfl) rfl ?_
    refine mx_aload_n dA_least_21 rfl ?_
    refine mx_get 0 4 dA_least_22 fgA_36 rfl rfl ?_
    refine mx_aload_n dA_least_25 rfl ?_
    refine mx_get 0 0 dA_least_26 fgA_12 rfl rfl ?_
    refine mx_get 1 0 dA_least_29 fgA_68 rfl rfl ?_
    refine mx_V1 (R' := (mR 1 24)) [_] _ dA_least_32 rfl mT_G jH_longestUnregistered_ok jH_longestUnregistered_v lkA_132 ⟨rfl, rfl, Nat.le_of_ble_eq_true rfl, Nat.le_of_ble_eq_true rfl⟩ rfl rfl (Nat.le_of_ble_eq_true rfl) (Nat.le_of_ble_eq_true rfl) rfl rfl rfl (fun Qc qc => cH_longestUnregistered hc qc) ?_
    refine mx_istore_n dA_least_35 (Nat.le_of_ble_eq_true rfl) rfl ?_
    refine mx_iconst (0) dA_least_36 (by decide) ?_
    refine mx_istore_n dA_least_37 (Nat.le_of_ble_eq_true rfl) rfl ?_
    exact hloop 0 (Nat.zero_le _) _ _ (aI2 c I) (fun w hw => by rw [aI2_12]; exact hsr w hw) hQ
theorem oStep_pl {rd : (Nat → Int32) → Nat → Bool} {c g : Nat} {s : oS} (g1 : 1 ≤ g) (g2 : g ≤ c) (h : ∀ a, a < s.2.2 → ∃ γ, 1 ≤ γ ∧ γ ≤ c ∧ s.2.1 a = nI γ) : ∀ a, a < (oStep rd g s).2.2 → ∃ γ, 1 ≤ γ ∧ γ ≤ c ∧ (oStep rd g s).2.1 a = nI γ := by
  unfold oStep
  split
  · split
    · intro a ha
      have ha : a < s.2.2 + 1 := ha
      show ∃ γ, 1 ≤ γ ∧ γ ≤ c ∧ upd s.2.1 s.2.2 (nI g) a = nI γ
      by_cases e : a = s.2.2
      · subst e; exact ⟨g, g1, g2, pk_us⟩
      · rw [pk_un e]; exact h a (by omega)
    · exact h
  · exact h
theorem oRound_pl {rd : (Nat → Int32) → Nat → Bool} {c : Nat} {s : oS} (h : ∀ a, a < s.2.2 → ∃ γ, 1 ≤ γ ∧ γ ≤ c ∧ s.2.1 a = nI γ) : ∀ a, a < (oRound rd c s).2.2 → ∃ γ, 1 ≤ γ ∧ γ ≤ c ∧ (oRound rd c s).2.1 a = nI γ := by
  unfold oRound
  exact lp_keep (P := fun (s : oS) => ∀ a, a < s.2.2 → ∃ γ, 1 ≤ γ ∧ γ ≤ c ∧ s.2.1 a = nI γ) h c (fun i t hi ht => oStep_pl (by omega) (by omega) ht)
theorem oRun_pl {rd : (Nat → Int32) → Nat → Bool} {c : Nat} : ∀ (n : Nat) (s : oS), (∀ a, a < s.2.2 → ∃ γ, 1 ≤ γ ∧ γ ≤ c ∧ s.2.1 a = nI γ) → ∀ a, a < (oRun rd c n s).2.2 → ∃ γ, 1 ≤ γ ∧ γ ≤ c ∧ (oRun rd c n s).2.1 a = nI γ
  | 0, s, h => h
  | n + 1, s, h => by
    unfold oRun
    split
    · exact oRun_pl n _ (oRound_pl h)
    · exact h
theorem oFin_pl {c : Nat} {I : Nat → Nat → Int32} (h : sndB c I = true) : ∀ a, a < c → ∃ γ, 1 ≤ γ ∧ γ ≤ c ∧ oI c I 17 a = nI γ := by
  unfold sndB at h
  have h2 := of_decide_eq_true (Bool.and_eq_true_iff.mp h).2
  intro a ha
  exact oRun_pl c _ (fun a ha => absurd ha (Nat.not_lt_zero a)) a (by unfold oFin at h2; rw [h2]; exact ha)
def tI1 (c : Nat) (I : Nat → Nat → Int32) (x y z : Int32) : Nat → Nat → Int32 := upI (oI c I) 25 (cIn (I 25) x y z)
def tI2 (c : Nat) (I : Nat → Nat → Int32) (L : Nat → Nat → Int64) (x y z : Int32) : Nat → Nat → Int32 := upI (tI1 c I x y z) 25 (cSet (I 10) (I 12) (I 65) (L 66) (fun a => (oI c I 17 a).toNatClampNeg) c (cIn (I 25) x y z))
def aTick (c : Nat) (fil : Int32) (I : Nat → Nat → Int32) (L : Nat → Nat → Int64) (x y z : Int32) : aR := if sndB c I = true then (if aVal x = 0 then (.inr 0, pic (nI c) (nI c) (oI c I) L) else if aVal y = 0 then (.inr 0, pic (nI c) (nI c) (oI c I) L) else if ¬ aVal z = 0 then (.inl (some (.int (cOut (I 12) (I 65) (L 66) (tI2 c I L x y z 25)))), kPic c (nI c) (tI2 c I L x y z) L (cSh (I 12) (tI2 c I L x y z 25) (I 65, L 66))) else (.inr 0, pic (nI c) (nI c) (oI c I) L)) else (.inr 3, sndH c fil I L)
theorem cA_tick {c : Nat} {fil : Int32} {I : Nat → Nat → Int32} {L : Nat → Nat → Int64} {Q : mx_O → List va_E → Prop} (hc : c ≤ 12) (hsr : ∀ w, w < 27 → I 12 w ≤ 12) (hv : ∀ w, w < 27 → vp_in (3 + I 12 w) 16) {x y z : Int32} (hQ : Q (aTick c fil I L x y z).1 (aTick c fil I L x y z).2) : mx_W mx_K mT mCl jA_tick (mRT 7 156) 0 [.ref 0, .int x, .int y, .int z, .retAddr 0] [] (pic (nI c) fil I L) Q := by
  unfold aTick at hQ
  cases e : sndB c I with
  | false =>
    rw [e] at hQ
    refine mx_aload_n dA_tick_0 rfl ?_
    refine mx_VT1 (R' := (mRT 6 136)) [] _ dA_tick_1 rfl mT_G jA_needSound_ok jA_needSound_v (mT_2 (i := 206) rfl rfl) ⟨Nat.le_of_ble_eq_true rfl, Nat.le_of_ble_eq_true rfl, Nat.le_of_ble_eq_true rfl, Nat.le_of_ble_eq_true rfl⟩ rfl rfl (Nat.le_of_ble_eq_true rfl) (Nat.le_of_ble_eq_true rfl) rfl rfl rfl (fun Qc qc => cA_needSoundT hc hsr e qc) ?_
    exact hQ
  | true =>
    rw [e, if_pos rfl] at hQ
    have hpl := oFin_pl e
    have hpl2 : ∀ a, a < c → 1 ≤ (oI c I 17 a).toNatClampNeg ∧ (oI c I 17 a).toNatClampNeg ≤ 12 ∧ oI c I 17 a = nI (oI c I 17 a).toNatClampNeg := by
      intro a ha
      obtain ⟨γ, q1, q2, q3⟩ := hpl a ha
      rw [q3, nI_clamp (by omega)]
      exact ⟨q1, by omega, rfl⟩
    refine mx_aload_n dA_tick_0 rfl ?_
    refine mx_V1 (R' := (mR 6 136)) [] _ dA_tick_1 rfl mT_G jA_needSound_ok jA_needSound_v lkA_125 ⟨rfl, rfl, Nat.le_of_ble_eq_true rfl, Nat.le_of_ble_eq_true rfl⟩ rfl rfl (Nat.le_of_ble_eq_true rfl) (Nat.le_of_ble_eq_true rfl) rfl rfl rfl (fun Qc qc => cA_needSound hc hsr e qc) ?_
    refine mx_iload_n dA_tick_4 rfl ?_
    refine mx_S1 (R' := (mR 0 0)) [_] _ dA_tick_5 rfl mT_G jA_isValue_ok jA_isValue_v lkA_104 ⟨rfl, rfl, Nat.le_of_ble_eq_true rfl, Nat.le_of_ble_eq_true rfl⟩ rfl rfl (Nat.le_of_ble_eq_true rfl) (Nat.le_of_ble_eq_true rfl) (fun Qc qc => cA_isValue qc) ?_
    refine mx_if_eq 25 dA_tick_8 rfl (fun h8 => ?_) (fun h8 => ?_)
    · refine mx_throw 0 dA_tick_25 dA_tick_28 dA_tick_29 dA_tick_32 mT_G (mT_2 (i := 25) rfl rfl) (mT_2 (i := 26) rfl rfl) (mT_1 (i := 13) rfl rfl) (by decide +kernel) (tw_of tw_67) (Nat.le_of_ble_eq_true rfl) (Nat.le_of_ble_eq_true rfl) (Nat.le_refl _) (Nat.le_refl _) ?_
      first | (rw [if_pos h8] at hQ; exact hQ) | (rw [if_neg h8, if_pos h15] at hQ; exact hQ) | (rw [if_neg h8, if_neg h15, if_neg (fun q => q h22)] at hQ; exact hQ)
    · refine mx_iload_n dA_tick_11 rfl ?_
      refine mx_S1 (R' := (mR 0 0)) [_] _ dA_tick_12 rfl mT_G jA_isValue_ok jA_isValue_v lkA_104 ⟨rfl, rfl, Nat.le_of_ble_eq_true rfl, Nat.le_of_ble_eq_true rfl⟩ rfl rfl (Nat.le_of_ble_eq_true rfl) (Nat.le_of_ble_eq_true rfl) (fun Qc qc => cA_isValue qc) ?_
      refine mx_if_eq 25 dA_tick_15 rfl (fun h15 => ?_) (fun h15 => ?_)
      · refine mx_throw 0 dA_tick_25 dA_tick_28 dA_tick_29 dA_tick_32 mT_G (mT_2 (i := 25) rfl rfl) (mT_2 (i := 26) rfl rfl) (mT_1 (i := 13) rfl rfl) (by decide +kernel) (tw_of tw_67) (Nat.le_of_ble_eq_true rfl) (Nat.le_of_ble_eq_true rfl) (Nat.le_refl _) (Nat.le_refl _) ?_
        first | (rw [if_pos h8] at hQ; exact hQ) | (rw [if_neg h8, if_pos h15] at hQ; exact hQ) | (rw [if_neg h8, if_neg h15, if_neg (fun q => q h22)] at hQ; exact hQ)
      · refine mx_iload_n dA_tick_18 rfl ?_
        refine mx_S1 (R' := (mR 0 0)) [_] _ dA_tick_19 rfl mT_G jA_isValue_ok jA_isValue_v lkA_104 ⟨rfl, rfl, Nat.le_of_ble_eq_true rfl, Nat.le_of_ble_eq_true rfl⟩ rfl rfl (Nat.le_of_ble_eq_true rfl) (Nat.le_of_ble_eq_true rfl) (fun Qc qc => cA_isValue qc) ?_
        refine mx_if_ne 33 dA_tick_22 rfl (fun h22 => ?_) (fun h22 => ?_)
        · rw [if_neg h8, if_neg h15, if_pos h22] at hQ
          refine mx_aload_n dA_tick_33 rfl ?_
          refine mx_get 0 7 dA_tick_34 fgA_57 rfl rfl ?_
          refine mx_iload_n dA_tick_37 rfl ?_
          refine mx_iload_n dA_tick_38 rfl ?_
          refine mx_iload_n dA_tick_39 rfl ?_
          refine mx_V1 (R' := (mR 0 0)) [_, _, _] _ dA_tick_40 rfl mT_G jC_setInputs_ok jC_setInputs_v lkA_160 ⟨rfl, rfl, Nat.le_of_ble_eq_true rfl, Nat.le_of_ble_eq_true rfl⟩ rfl rfl (Nat.le_of_ble_eq_true rfl) (Nat.le_of_ble_eq_true rfl) rfl rfl rfl (fun Qc qc => cC_setInputs (I := oI c I) qc) ?_
          refine mx_eqs (hp' := pic (nI c) (nI c) (tI1 c I x y z) L) rfl rfl rfl rfl ?_
          refine mx_aload_n dA_tick_43 rfl ?_
          refine mx_get 0 7 dA_tick_44 fgA_57 rfl rfl ?_
          refine mx_aload_n dA_tick_47 rfl ?_
          refine mx_get 0 0 dA_tick_48 fgA_12 rfl rfl ?_
          refine mx_aload_n dA_tick_51 rfl ?_
          refine mx_get 0 3 dA_tick_52 fgA_29 rfl rfl ?_
          refine mx_V1 (R' := (mR 2 44)) [_, _] _ dA_tick_55 rfl mT_G jC_settle_ok jC_settle_v lkA_163 ⟨rfl, rfl, Nat.le_of_ble_eq_true rfl, Nat.le_of_ble_eq_true rfl⟩ rfl rfl (Nat.le_of_ble_eq_true rfl) (Nat.le_of_ble_eq_true rfl) rfl rfl rfl (fun Qc qc => cC_settle (I := tI1 c I x y z) (pl := fun a => (oI c I 17 a).toNatClampNeg) hc hpl2 hv qc) ?_
          refine mx_eqs (hp' := pic (nI c) (nI c) (tI2 c I L x y z) L) rfl rfl rfl rfl ?_
          refine mx_aload_n dA_tick_58 rfl ?_
          refine mx_get 0 7 dA_tick_59 fgA_57 rfl rfl ?_
          refine mx_aload_n dA_tick_62 rfl ?_
          refine mx_get 0 0 dA_tick_63 fgA_12 rfl rfl ?_
          refine mx_V1 (R' := (mR 2 44)) [_] _ dA_tick_66 rfl mT_G jC_outputs_ok jC_outputs_v lkA_167 ⟨rfl, rfl, Nat.le_of_ble_eq_true rfl, Nat.le_of_ble_eq_true rfl⟩ rfl rfl (Nat.le_of_ble_eq_true rfl) (Nat.le_of_ble_eq_true rfl) rfl rfl rfl (fun Qc qc => cC_outputs (I := tI2 c I L x y z) hv qc) ?_
          refine mx_istore dA_tick_69 (Nat.le_of_ble_eq_true rfl) rfl ?_
          refine mx_aload_n dA_tick_71 rfl ?_
          refine mx_get 0 7 dA_tick_72 fgA_57 rfl rfl ?_
          refine mx_aload_n dA_tick_75 rfl ?_
          refine mx_get 0 0 dA_tick_76 fgA_12 rfl rfl ?_
          refine mx_V1 (R' := (mR 2 47)) [_] _ dA_tick_79 rfl mT_G jC_shift_ok jC_shift_v lkA_171 ⟨rfl, rfl, Nat.le_of_ble_eq_true rfl, Nat.le_of_ble_eq_true rfl⟩ rfl rfl (Nat.le_of_ble_eq_true rfl) (Nat.le_of_ble_eq_true rfl) rfl rfl rfl (fun Qc qc => cC_shift (I := tI2 c I L x y z) hv qc) ?_
          refine mx_iload dA_tick_82 rfl ?_
          refine mx_iret dA_tick_84 rfl rfl ?_
          exact hQ
        · refine mx_throw 0 dA_tick_25 dA_tick_28 dA_tick_29 dA_tick_32 mT_G (mT_2 (i := 25) rfl rfl) (mT_2 (i := 26) rfl rfl) (mT_1 (i := 13) rfl rfl) (by decide +kernel) (tw_of tw_67) (Nat.le_of_ble_eq_true rfl) (Nat.le_of_ble_eq_true rfl) (Nat.le_refl _) (Nat.le_refl _) ?_
          first | (rw [if_pos h8] at hQ; exact hQ) | (rw [if_neg h8, if_pos h15] at hQ; exact hQ) | (rw [if_neg h8, if_neg h15, if_neg (fun q => q h22)] at hQ; exact hQ)
