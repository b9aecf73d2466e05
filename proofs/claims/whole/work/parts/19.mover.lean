/-! Mover. -/
theorem mx_dec (n : Nat) : nI (n + 1) + Int32.ofInt (-1) = nI n := pk_m1 n
/-- lengths, values -/
abbrev bS : Type := (Nat → Int32) × (Nat → Int64)
def bTk (b : bS) (w : Nat) : bS := (upd b.1 w (b.1 w - 1), vp_updL b.2 w (bSh (b.2 w)))
def bPk (b : bS) (w : Nat) (x : Int32) : bS := (upd b.1 w (b.1 w + 1), vp_updL b.2 w (bPs (b.2 w) x))
def bTs (b : bS) (w : Nat) : bS := (upd b.1 w (b.1 w - 1), b.2)
def bPu (b : bS) (w : Nat) (x : Int32) : bS := (upd b.1 w (b.1 w + 1), vp_updL b.2 w (bWr (b.2 w) (b.1 w) x))
/-- the picture, with the trial bank b -/
def tPic (c : Nat) (fil : Int32) (I : Nat → Nat → Int32) (L : Nat → Nat → Int64) (b : bS) : List va_E := pic (nI c) fil (upI I 15 b.1) (upL L 16 b.2)
theorem tPic_own {c : Nat} {fil : Int32} {I : Nat → Nat → Int32} {L : Nat → Nat → Int64} : tPic c fil I L (I 15, L 16) = pic (nI c) fil I L := by
  unfold tPic; rw [upI_own, upL_own]
theorem tPic_B {c : Nat} {fil : Int32} {I : Nat → Nat → Int32} {L : Nat → Nat → Int64} {b : bS} : pB (tPic c fil I L b) 3 15 16 b.1 b.2 := ⟨rfl, rfl, rfl⟩
theorem tPic_P {c : Nat} {fil : Int32} {I : Nat → Nat → Int32} {L : Nat → Nat → Int64} {b : bS} : pP (tPic c fil I L b) 1 10 11 12 (nI c) (I 10) (I 11) (I 12) := ⟨rfl, rfl, rfl, rfl⟩
theorem tPic_set {c : Nat} {fil : Int32} {I : Nat → Nat → Int32} {L : Nat → Nat → Int64} {b : bS} (f : Nat → Int32) (g : Nat → Int64) : ((tPic c fil I L b).set 16 (eV g)).set 15 (eL f) = tPic c fil I L (f, g) := by
  unfold tPic
  rw [pic_16, show eL f = eI 27 f from rfl, pic_15, upI_upI, upL_upL]
theorem tPic_setl {c : Nat} {fil : Int32} {I : Nat → Nat → Int32} {L : Nat → Nat → Int64} {b : bS} (f : Nat → Int32) : (tPic c fil I L b).set 15 (eL f) = tPic c fil I L (f, b.2) := by
  unfold tPic
  rw [show eL f = eI 27 f from rfl, pic_15, upI_upI]
def canF (kd ln : Nat → Int32) (g : Nat) : Bool := allB (pn kd g) (fun k => decide (¬ ln (2 * g - 2 + k) = 0))
def canB (sr ln : Nat → Int32) (g : Nat) : Bool := allB 27 (fun w => !(decide (sr w = nI g) && decide (ln w = 0)))
theorem cV_canForward {c : Nat} {fil : Int32} {I : Nat → Nat → Int32} {L : Nat → Nat → Int64} {Q : mx_O → List va_E → Prop} {b : bS} {g : Nat} (g1 : 1 ≤ g) (g2 : g ≤ 12) (hQ : Q (.inl (some (.int (i01 (canF (I 10) b.1 g))))) (tPic c fil I L b)) : mx_W mx_K mT mCl jV_canForward (mR 2 42) 0 [.ref 7, .ref 1, .ref 3, .int (nI g), .retAddr 0] [] (tPic c fil I L b) Q := by
  have hg : vp_in (nI g) 13 := (vp_in_nI (by omega) (by decide))
  have hp2 := pn_le (I 10) g
  have hloop : ∀ i, i ≤ pn (I 10) g → (∀ j, j < i → ¬ b.1 (2 * g - 2 + j) = 0) → mx_W mx_K mT mCl jV_canForward (mR 2 42) 7 [.ref 7, .ref 1, .ref 3, .int (nI g), .int (nI (2 * g - 2 + i))] [] (tPic c fil I L b) Q := by
    refine lp_down ?_ ?_
    · intro hno
      refine mx_iload dV_canForward_7 rfl ?_
      refine mx_aload_n dV_canForward_9 rfl ?_
      refine mx_iload_n dV_canForward_10 rfl ?_
      refine mx_V1 (R' := (mR 1 21)) [_] _ dV_canForward_11 rfl mT_G jP_endOfPins_ok jP_endOfPins_v lkV_53 ⟨rfl, rfl, Nat.le_of_ble_eq_true rfl, Nat.le_of_ble_eq_true rfl⟩ rfl rfl (Nat.le_of_ble_eq_true rfl) (Nat.le_of_ble_eq_true rfl) rfl rfl rfl (fun Qc qc => cP_endOfPins tPic_P hg qc) ?_
      rw [ep_nat g1 (by omega)]
      refine mx_icmp_ge 34 dV_canForward_14 rfl (fun h14 => ?_) (fun h14 => ?_)
      rotate_left
      · exact absurd (nI_le (Nat.le_refl _) (by omega)) h14
      refine mx_iconst (1) dV_canForward_34 (by decide) ?_
      refine mx_iret dV_canForward_35 rfl rfl ?_
      rw [i01_t (show canF (I 10) b.1 g = true from allB_iff.mpr (fun j hj => by simpa using hno j hj))] at hQ
      exact hQ
    · intro i hi ih hno
      refine mx_iload dV_canForward_7 rfl ?_
      refine mx_aload_n dV_canForward_9 rfl ?_
      refine mx_iload_n dV_canForward_10 rfl ?_
      refine mx_V1 (R' := (mR 1 21)) [_] _ dV_canForward_11 rfl mT_G jP_endOfPins_ok jP_endOfPins_v lkV_53 ⟨rfl, rfl, Nat.le_of_ble_eq_true rfl, Nat.le_of_ble_eq_true rfl⟩ rfl rfl (Nat.le_of_ble_eq_true rfl) (Nat.le_of_ble_eq_true rfl) rfl rfl rfl (fun Qc qc => cP_endOfPins tPic_P hg qc) ?_
      rw [ep_nat g1 (by omega)]
      refine mx_icmp_ge 34 dV_canForward_14 rfl (fun h14 => ?_) (fun h14 => ?_)
      · exact absurd h14 (nI_ge (by omega) (by omega))
      refine mx_aload_n dV_canForward_17 rfl ?_
      refine mx_iload dV_canForward_18 rfl ?_
      refine mx_V1 (R' := (mR 0 0)) [_] _ dV_canForward_20 rfl mT_G jB_length_ok jB_length_v lkV_56 ⟨rfl, rfl, Nat.le_of_ble_eq_true rfl, Nat.le_of_ble_eq_true rfl⟩ rfl rfl (Nat.le_of_ble_eq_true rfl) (Nat.le_of_ble_eq_true rfl) rfl rfl rfl (fun Qc qc => cB_length tPic_B (vp_in_nI (by omega) (by decide)) qc) ?_
      rw [nI_clamp (by omega)]
      refine mx_if_ne 28 dV_canForward_23 rfl (fun h23 => ?_) (fun h23 => ?_)
      · refine mx_iinc dV_canForward_28 rfl (mx_inc _) (Nat.le_of_ble_eq_true rfl) rfl ?_
        refine mx_goto 7 dV_canForward_31 rfl ?_
        refine ih (fun j hj => ?_)
        by_cases e : j = i
        · subst e; exact h23
        · exact hno j (by omega)
      · refine mx_iconst (0) dV_canForward_26 (by decide) ?_
        refine mx_iret dV_canForward_27 rfl rfl ?_
        rw [i01_f (show canF (I 10) b.1 g = false from allB_no hi (by simpa using h23))] at hQ
        exact hQ
  refine mx_aload_n dV_canForward_0 rfl ?_
  refine mx_iload_n dV_canForward_1 rfl ?_
  refine mx_V1 (R' := (mR 0 0)) [_] _ dV_canForward_2 rfl mT_G jP_firstPin_ok jP_firstPin_v lkV_49 ⟨rfl, rfl, Nat.le_of_ble_eq_true rfl, Nat.le_of_ble_eq_true rfl⟩ rfl rfl (Nat.le_of_ble_eq_true rfl) (Nat.le_of_ble_eq_true rfl) rfl rfl rfl (fun Qc qc => cP_firstPin qc) ?_
  rw [fp_nat g1]
  refine mx_istore dV_canForward_5 (Nat.le_of_ble_eq_true rfl) rfl ?_
  exact hloop 0 (Nat.zero_le _) (fun j hj => absurd hj (Nat.not_lt_zero j))
theorem cV_canBackward {c : Nat} {fil : Int32} {I : Nat → Nat → Int32} {L : Nat → Nat → Int64} {Q : mx_O → List va_E → Prop} {b : bS} {g : Nat} (hQ : Q (.inl (some (.int (i01 (canB (I 12) b.1 g))))) (tPic c fil I L b)) : mx_W mx_K mT mCl jV_canBackward (mR 1 21) 0 [.ref 7, .ref 1, .ref 3, .int (nI g), .retAddr 0] [] (tPic c fil I L b) Q := by
  have hloop : ∀ i, i ≤ 27 → (∀ j, j < i → (!(decide (I 12 j = nI g) && decide (b.1 j = 0))) = true) → mx_W mx_K mT mCl jV_canBackward (mR 1 21) 3 [.ref 7, .ref 1, .ref 3, .int (nI g), .int (nI i)] [] (tPic c fil I L b) Q := by
    refine lp_down ?_ ?_
    · intro hno
      refine mx_iload dV_canBackward_3 rfl ?_
      refine mx_bipush (27) dV_canBackward_5 (by decide) ?_
      refine mx_icmp_ge 38 dV_canBackward_7 rfl (fun h7 => ?_) (fun h7 => ?_)
      rotate_left
      · exact absurd (show (27 : Int32) ≤ nI 27 by decide) h7
      refine mx_iconst (1) dV_canBackward_38 (by decide) ?_
      refine mx_iret dV_canBackward_39 rfl rfl ?_
      rw [i01_t (show canB (I 12) b.1 g = true from allB_iff.mpr hno)] at hQ
      exact hQ
    · intro i hi ih hno
      refine mx_iload dV_canBackward_3 rfl ?_
      refine mx_bipush (27) dV_canBackward_5 (by decide) ?_
      refine mx_icmp_ge 38 dV_canBackward_7 rfl (fun h7 => ?_) (fun h7 => ?_)
      · exact absurd h7 (nI_ge (b := 27) hi (by decide))
      refine mx_aload_n dV_canBackward_10 rfl ?_
      refine mx_get 1 3 dV_canBackward_11 fgV_61 rfl rfl ?_
      refine mx_iload dV_canBackward_14 rfl ?_
      refine mx_iald dV_canBackward_16 rfl (vp_in_nI (by omega) (by decide)) ?_
      rw [nI_clamp (by omega)]
      refine mx_iload_n dV_canBackward_17 rfl ?_
      show mx_W mx_K mT mCl jV_canBackward (mR 1 21) _ _ (_ :: .int (I 12 i) :: _) _ _
      refine mx_icmp_ne 32 dV_canBackward_18 rfl (fun h18 => ?_) (fun h18 => ?_)
      · refine mx_iinc dV_canBackward_32 rfl (mx_inc _) (Nat.le_of_ble_eq_true rfl) rfl ?_
        refine mx_goto 3 dV_canBackward_35 rfl ?_
        refine ih (fun j hj => ?_)
        by_cases e : j = i
        · subst e; simp [h7, h18]
        · exact hno j (by omega)
      · refine mx_aload_n dV_canBackward_21 rfl ?_
        refine mx_iload dV_canBackward_22 rfl ?_
        refine mx_V1 (R' := (mR 0 0)) [_] _ dV_canBackward_24 rfl mT_G jB_length_ok jB_length_v lkV_56 ⟨rfl, rfl, Nat.le_of_ble_eq_true rfl, Nat.le_of_ble_eq_true rfl⟩ rfl rfl (Nat.le_of_ble_eq_true rfl) (Nat.le_of_ble_eq_true rfl) rfl rfl rfl (fun Qc qc => cB_length tPic_B (vp_in_nI (by omega) (by decide)) qc) ?_
        rw [nI_clamp (by omega)]
        refine mx_if_ne 32 dV_canBackward_27 rfl (fun h27 => ?_) (fun h27 => ?_)
        · refine mx_iinc dV_canBackward_32 rfl (mx_inc _) (Nat.le_of_ble_eq_true rfl) rfl ?_
          refine mx_goto 3 dV_canBackward_35 rfl ?_
          refine ih (fun j hj => ?_)
          by_cases e : j = i
          · subst e; simp [h7, h18, h27]
          · exact hno j (by omega)
        · refine mx_iconst (0) dV_canBackward_30 (by decide) ?_
          refine mx_iret dV_canBackward_31 rfl rfl ?_
          rw [i01_f (show canB (I 12) b.1 g = false from allB_no hi (by simp [h18, h27]))] at hQ
          exact hQ
  refine mx_iconst (0) dV_canBackward_0 (by decide) ?_
  refine mx_istore dV_canBackward_1 (Nat.le_of_ble_eq_true rfl) rfl ?_
  exact hloop 0 (Nat.zero_le _) (fun j hj => absurd hj (Nat.not_lt_zero j))
def fLast (sr : Nat → Int32) (g : Nat) (v : Int32) (b : bS) : bS := lp (fun w b => if ¬ sr w = nI g then b else bPu b w v) 27 b
def mFwd (kd sr : Nat → Int32) (g : Nat) (b : bS) : bS := if ¬ nI (pn kd g) = 2 then fLast sr g (gMade (kd g) (bRd (b.2 (2 * g - 2)) 0) 2) (bTk b (2 * g - 2)) else fLast sr g (gMade (kd g) (bRd (b.2 (2 * g - 2)) 0) (bRd ((bTk b (2 * g - 2)).2 (2 * g - 2 + 1)) 0)) (bTk (bTk b (2 * g - 2)) (2 * g - 2 + 1))
theorem cV_forward {c : Nat} {fil : Int32} {I : Nat → Nat → Int32} {L : Nat → Nat → Int64} {Q : mx_O → List va_E → Prop} {b : bS} {g : Nat} (g1 : 1 ≤ g) (g2 : g ≤ 12) (hQ : Q (.inl none) (tPic c fil I L (mFwd (I 10) (I 12) g b))) : mx_W mx_K mT mCl jV_forward (mR 2 47) 0 [.ref 7, .ref 1, .ref 3, .int (nI g), .retAddr 0, .retAddr 0, .retAddr 0, .retAddr 0, .retAddr 0] [] (tPic c fil I L b) Q := by
  have hg : vp_in (nI g) 13 := (vp_in_nI (by omega) (by decide))
  have hp2 := pn_le (I 10) g
  have hloop : ∀ (b : bS) (x y z v : Int32), Q (.inl none) (tPic c fil I L (fLast (I 12) g v b)) → ∀ i, i ≤ 27 → mx_W mx_K mT mCl jV_forward (mR 2 47) 56 [.ref 7, .ref 1, .ref 3, .int (nI g), .int x, .int y, .int z, .int v, .int (nI i)] [] (tPic c fil I L (lp (fun w b => if ¬ I 12 w = nI g then b else bPu b w v) i b)) Q := by
    intro b x y z v hq
    refine lp_down ?_ ?_
    · refine mx_iload dV_forward_56 rfl ?_
      refine mx_bipush (27) dV_forward_58 (by decide) ?_
      refine mx_icmp_ge 88 dV_forward_60 rfl (fun h60 => ?_) (fun h60 => ?_)
      rotate_left
      · exact absurd (show (27 : Int32) ≤ nI 27 by decide) h60
      refine mx_vret dV_forward_88 rfl ?_
      unfold fLast at hq
      exact hq
    · intro i hi ih
      have ih : mx_W mx_K mT mCl jV_forward (mR 2 47) 56 [.ref 7, .ref 1, .ref 3, .int (nI g), .int x, .int y, .int z, .int v, .int (nI (i + 1))] [] (tPic c fil I L ((fun b => if ¬ I 12 i = nI g then b else bPu b i v) (lp (fun w b => if ¬ I 12 w = nI g then b else bPu b w v) i b))) Q := ih
      generalize lp (fun w b => if ¬ I 12 w = nI g then b else bPu b w v) i b = t at ih ⊢
      dsimp only at ih
      refine mx_iload dV_forward_56 rfl ?_
      refine mx_bipush (27) dV_forward_58 (by decide) ?_
      refine mx_icmp_ge 88 dV_forward_60 rfl (fun h60 => ?_) (fun h60 => ?_)
      · exact absurd h60 (nI_ge (b := 27) hi (by decide))
      refine mx_aload_n dV_forward_63 rfl ?_
      refine mx_get 1 3 dV_forward_64 fgV_61 rfl rfl ?_
      refine mx_iload dV_forward_67 rfl ?_
      refine mx_iald dV_forward_69 rfl (vp_in_nI (by omega) (by decide)) ?_
      rw [nI_clamp (by omega)]
      show mx_W mx_K mT mCl jV_forward (mR 2 47) _ _ (.int (I 12 i) :: _) _ _
      refine mx_iload_n dV_forward_70 rfl ?_
      refine mx_icmp_ne 82 dV_forward_71 rfl (fun h71 => ?_) (fun h71 => ?_)
      · first | rw [if_pos h71] at ih | rw [if_neg (fun e => e h71)] at ih
        refine mx_iinc dV_forward_82 rfl (mx_inc _) (Nat.le_of_ble_eq_true rfl) rfl ?_
        refine mx_goto 56 dV_forward_85 rfl ?_
        exact ih
      · refine mx_aload_n dV_forward_74 rfl ?_
        refine mx_iload dV_forward_75 rfl ?_
        refine mx_iload dV_forward_77 rfl ?_
        refine mx_V1 (R' := (mR 1 25)) [_, _] _ dV_forward_79 rfl mT_G jB_putAtSource_ok jB_putAtSource_v lkV_79 ⟨rfl, rfl, Nat.le_of_ble_eq_true rfl, Nat.le_of_ble_eq_true rfl⟩ rfl rfl (Nat.le_of_ble_eq_true rfl) (Nat.le_of_ble_eq_true rfl) rfl rfl rfl (fun Qc qc => cB_putAtSource tPic_B (vp_in_nI (by omega) (by decide)) qc) ?_
        rw [nI_clamp (by omega), tPic_set]
        first | rw [if_pos h71] at ih | rw [if_neg (fun e => e h71)] at ih
        refine mx_iinc dV_forward_82 rfl (mx_inc _) (Nat.le_of_ble_eq_true rfl) rfl ?_
        refine mx_goto 56 dV_forward_85 rfl ?_
        exact ih
  unfold mFwd at hQ
  refine mx_aload_n dV_forward_0 rfl ?_
  refine mx_iload_n dV_forward_1 rfl ?_
  refine mx_V1 (R' := (mR 0 0)) [_] _ dV_forward_2 rfl mT_G jP_firstPin_ok jP_firstPin_v lkV_49 ⟨rfl, rfl, Nat.le_of_ble_eq_true rfl, Nat.le_of_ble_eq_true rfl⟩ rfl rfl (Nat.le_of_ble_eq_true rfl) (Nat.le_of_ble_eq_true rfl) rfl rfl rfl (fun Qc qc => cP_firstPin qc) ?_
  rw [fp_nat g1]
  refine mx_istore dV_forward_5 (Nat.le_of_ble_eq_true rfl) rfl ?_
  refine mx_aload_n dV_forward_7 rfl ?_
  refine mx_iload dV_forward_8 rfl ?_
  refine mx_V1 (R' := (mR 1 22)) [_] _ dV_forward_10 rfl mT_G jB_takeAtSink_ok jB_takeAtSink_v lkV_64 ⟨rfl, rfl, Nat.le_of_ble_eq_true rfl, Nat.le_of_ble_eq_true rfl⟩ rfl rfl (Nat.le_of_ble_eq_true rfl) (Nat.le_of_ble_eq_true rfl) rfl rfl rfl (fun Qc qc => cB_takeAtSink tPic_B (vp_in_nI (by omega) (by decide)) qc) ?_
  rw [nI_clamp (by omega), tPic_set]
  refine mx_istore dV_forward_13 (Nat.le_of_ble_eq_true rfl) rfl ?_
  refine mx_aload_n dV_forward_15 rfl ?_
  refine mx_iload_n dV_forward_16 rfl ?_
  refine mx_V1 (R' := (mR 0 0)) [_] _ dV_forward_17 rfl mT_G jP_pinsOf_ok jP_pinsOf_v lkV_67 ⟨rfl, rfl, Nat.le_of_ble_eq_true rfl, Nat.le_of_ble_eq_true rfl⟩ rfl rfl (Nat.le_of_ble_eq_true rfl) (Nat.le_of_ble_eq_true rfl) rfl rfl rfl (fun Qc qc => cP_pinsOf tPic_P hg qc) ?_
  rw [pn_nat (by omega)]
  refine mx_iconst (2) dV_forward_20 (by decide) ?_
  refine mx_icmp_ne 35 dV_forward_21 rfl (fun h21 => ?_) (fun h21 => ?_)
  · refine mx_iconst (2) dV_forward_35 (by decide) ?_
    refine mx_istore dV_forward_36 (Nat.le_of_ble_eq_true rfl) rfl ?_
    refine mx_aload_n dV_forward_38 rfl ?_
    refine mx_get 1 1 dV_forward_39 fgV_70 rfl rfl ?_
    refine mx_iload_n dV_forward_42 rfl ?_
    refine mx_iald dV_forward_43 rfl hg ?_
    rw [nI_clamp (by omega)]
    show mx_W mx_K mT mCl jV_forward (mR 2 47) _ _ (.int (I 10 g) :: _) _ _
    refine mx_iload dV_forward_44 rfl ?_
    refine mx_iload dV_forward_46 rfl ?_
    refine mx_S1 (R' := (mR 1 22)) [_, _, _] _ dV_forward_48 rfl mT_G jG_made_ok jG_made_v lkV_73 ⟨rfl, rfl, Nat.le_of_ble_eq_true rfl, Nat.le_of_ble_eq_true rfl⟩ rfl rfl (Nat.le_of_ble_eq_true rfl) (Nat.le_of_ble_eq_true rfl) (fun Qc qc => cG_made qc) ?_
    refine mx_istore dV_forward_51 (Nat.le_of_ble_eq_true rfl) rfl ?_
    refine mx_iconst (0) dV_forward_53 (by decide) ?_
    refine mx_istore dV_forward_54 (Nat.le_of_ble_eq_true rfl) rfl ?_
    first | rw [if_pos h21] at hQ | rw [if_neg (fun e => e h21)] at hQ
    exact hloop _ _ _ _ _ hQ 0 (Nat.zero_le _)
  · refine mx_aload_n dV_forward_24 rfl ?_
    refine mx_iload dV_forward_25 rfl ?_
    refine mx_iconst (1) dV_forward_27 (by decide) ?_
    refine mx_iadd dV_forward_28 ?_
    rw [nI_1]
    refine mx_V1 (R' := (mR 1 22)) [_] _ dV_forward_29 rfl mT_G jB_takeAtSink_ok jB_takeAtSink_v lkV_64 ⟨rfl, rfl, Nat.le_of_ble_eq_true rfl, Nat.le_of_ble_eq_true rfl⟩ rfl rfl (Nat.le_of_ble_eq_true rfl) (Nat.le_of_ble_eq_true rfl) rfl rfl rfl (fun Qc qc => cB_takeAtSink tPic_B (vp_in_nI (by omega) (by decide)) qc) ?_
    rw [nI_clamp (by have := h21; omega), tPic_set]
    refine mx_goto 36 dV_forward_32 rfl ?_
    refine mx_istore dV_forward_36 (Nat.le_of_ble_eq_true rfl) rfl ?_
    refine mx_aload_n dV_forward_38 rfl ?_
    refine mx_get 1 1 dV_forward_39 fgV_70 rfl rfl ?_
    refine mx_iload_n dV_forward_42 rfl ?_
    refine mx_iald dV_forward_43 rfl hg ?_
    rw [nI_clamp (by omega)]
    show mx_W mx_K mT mCl jV_forward (mR 2 47) _ _ (.int (I 10 g) :: _) _ _
    refine mx_iload dV_forward_44 rfl ?_
    refine mx_iload dV_forward_46 rfl ?_
    refine mx_S1 (R' := (mR 1 22)) [_, _, _] _ dV_forward_48 rfl mT_G jG_made_ok jG_made_v lkV_73 ⟨rfl, rfl, Nat.le_of_ble_eq_true rfl, Nat.le_of_ble_eq_true rfl⟩ rfl rfl (Nat.le_of_ble_eq_true rfl) (Nat.le_of_ble_eq_true rfl) (fun Qc qc => cG_made qc) ?_
    refine mx_istore dV_forward_51 (Nat.le_of_ble_eq_true rfl) rfl ?_
    refine mx_iconst (0) dV_forward_53 (by decide) ?_
    refine mx_istore dV_forward_54 (Nat.le_of_ble_eq_true rfl) rfl ?_
    first | rw [if_pos h21] at hQ | rw [if_neg (fun e => e h21)] at hQ
    exact hloop _ _ _ _ _ hQ 0 (Nat.zero_le _)
