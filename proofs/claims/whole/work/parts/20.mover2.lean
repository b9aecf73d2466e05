/-! Mover: backward, moveEach, follow. -/
def gJn (a b : Int32) : Int32 := if a = 2 then b else if ¬ a = b then (if ¬ b = 2 then 3 else a) else b
theorem cV_joined {hp : List va_E} {Q : mx_O → List va_E → Prop} {a b : Int32} (hQ : Q (.inl (some (.int (gJn a b)))) (hp)) : mx_W mx_K mT mCl jV_joined (mR 0 0) 0 [.int a, .int b] [] hp Q := by
  refine mx_iload_n dV_joined_0 rfl ?_
  refine mx_iconst (2) dV_joined_1 (by decide) ?_
  refine mx_icmp_eq 10 dV_joined_2 rfl (fun h2 => ?_) (fun h2 => ?_)
  · refine mx_iload_n dV_joined_10 rfl ?_
    refine mx_iret dV_joined_11 rfl rfl ?_
    have e : gJn a b = b := by
      unfold gJn
      (repeat' split) <;> first | rfl | contradiction
    rw [e] at hQ
    exact hQ
  · refine mx_iload_n dV_joined_5 rfl ?_
    refine mx_iload_n dV_joined_6 rfl ?_
    refine mx_icmp_ne 12 dV_joined_7 rfl (fun h7 => ?_) (fun h7 => ?_)
    · refine mx_iload_n dV_joined_12 rfl ?_
      refine mx_iconst (2) dV_joined_13 (by decide) ?_
      refine mx_icmp_ne 21 dV_joined_14 rfl (fun h14 => ?_) (fun h14 => ?_)
      · refine mx_iconst (3) dV_joined_21 (by decide) ?_
        refine mx_iret dV_joined_22 rfl rfl ?_
        have e : gJn a b = 3 := by
          unfold gJn
          (repeat' split) <;> first | rfl | contradiction
        rw [e] at hQ
        exact hQ
      · refine mx_iload_n dV_joined_17 rfl ?_
        refine mx_goto 22 dV_joined_18 rfl ?_
        refine mx_iret dV_joined_22 rfl rfl ?_
        have e : gJn a b = a := by
          unfold gJn
          (repeat' split) <;> first | rfl | contradiction
        rw [e] at hQ
        exact hQ
    · refine mx_iload_n dV_joined_10 rfl ?_
      refine mx_iret dV_joined_11 rfl rfl ?_
      have e : gJn a b = b := by
        unfold gJn
        (repeat' split) <;> first | rfl | contradiction
      rw [e] at hQ
      exact hQ
/-- the values taken back at the sources of gate g, and the bank behind that -/
def kTake (sr : Nat → Int32) (g : Nat) (s : Int32 × bS) : Int32 × bS := lp (fun w s => if ¬ sr w = nI g then s else (gJn s.1 (bRd (s.2.2 w) (s.2.1 w - 1)), bTs s.2 w)) 27 s
def kPut (kd : Nat → Int32) (g : Nat) (v : Int32) (b : bS) : bS := lp (fun i b => bPk b (2 * g - 2 + i) (gNeed (kd g) (nI i) v)) (pn kd g) b
def mBwd (kd sr : Nat → Int32) (g : Nat) (b : bS) : bS × Bool := if ¬ (kTake sr g (2, b)).1 = 3 then (kPut kd g (kTake sr g (2, b)).1 (kTake sr g (2, b)).2, true) else ((kTake sr g (2, b)).2, false)
theorem cV_backward {c : Nat} {fil : Int32} {I : Nat → Nat → Int32} {L : Nat → Nat → Int64} {Q : mx_O → List va_E → Prop} {b : bS} {g : Nat} (g1 : 1 ≤ g) (g2 : g ≤ 12) (hQ : Q (.inl (some (.int (i01 (mBwd (I 10) (I 12) g b).2)))) (tPic c fil I L (mBwd (I 10) (I 12) g b).1)) : mx_W mx_K mT mCl jV_backward (mR 2 43) 0 [.ref 7, .ref 1, .ref 3, .int (nI g), .retAddr 0, .retAddr 0, .retAddr 0] [] (tPic c fil I L b) Q := by
  have hg : vp_in (nI g) 13 := (vp_in_nI (by omega) (by decide))
  have hp2 := pn_le (I 10) g
  have l2 : ∀ (v : Int32) (b : bS), Q (.inl (some (.int 1))) (tPic c fil I L (kPut (I 10) g v b)) → ∀ i, i ≤ pn (I 10) g → mx_W mx_K mT mCl jV_backward (mR 2 43) 62 [.ref 7, .ref 1, .ref 3, .int (nI g), .int v, .int (nI (2 * g - 2)), .int (nI (2 * g - 2 + i))] [] (tPic c fil I L (lp (fun i b => bPk b (2 * g - 2 + i) (gNeed (I 10 g) (nI i) v)) i b)) Q := by
    intro v b hq
    refine lp_down ?_ ?_
    · refine mx_iload dV_backward_62 rfl ?_
      refine mx_aload_n dV_backward_64 rfl ?_
      refine mx_iload_n dV_backward_65 rfl ?_
      refine mx_V1 (R' := (mR 1 21)) [_] _ dV_backward_66 rfl mT_G jP_endOfPins_ok jP_endOfPins_v lkV_53 ⟨rfl, rfl, Nat.le_of_ble_eq_true rfl, Nat.le_of_ble_eq_true rfl⟩ rfl rfl (Nat.le_of_ble_eq_true rfl) (Nat.le_of_ble_eq_true rfl) rfl rfl rfl (fun Qc qc => cP_endOfPins tPic_P hg qc) ?_
      rw [ep_nat g1 (by omega)]
      refine mx_icmp_ge 100 dV_backward_69 rfl (fun h69 => ?_) (fun h69 => ?_)
      rotate_left
      · exact absurd (nI_le (Nat.le_refl _) (by omega)) h69
      refine mx_iconst (1) dV_backward_100 (by decide) ?_
      refine mx_iret dV_backward_101 rfl rfl ?_
      unfold kPut at hq
      exact hq
    · intro i hi ih
      have ih : mx_W mx_K mT mCl jV_backward (mR 2 43) 62 [.ref 7, .ref 1, .ref 3, .int (nI g), .int v, .int (nI (2 * g - 2)), .int (nI (2 * g - 2 + (i + 1)))] [] (tPic c fil I L (bPk (lp (fun i b => bPk b (2 * g - 2 + i) (gNeed (I 10 g) (nI i) v)) i b) (2 * g - 2 + i) (gNeed (I 10 g) (nI i) v))) Q := ih
      generalize lp (fun i b => bPk b (2 * g - 2 + i) (gNeed (I 10 g) (nI i) v)) i b = t at ih ⊢
      refine mx_iload dV_backward_62 rfl ?_
      refine mx_aload_n dV_backward_64 rfl ?_
      refine mx_iload_n dV_backward_65 rfl ?_
      refine mx_V1 (R' := (mR 1 21)) [_] _ dV_backward_66 rfl mT_G jP_endOfPins_ok jP_endOfPins_v lkV_53 ⟨rfl, rfl, Nat.le_of_ble_eq_true rfl, Nat.le_of_ble_eq_true rfl⟩ rfl rfl (Nat.le_of_ble_eq_true rfl) (Nat.le_of_ble_eq_true rfl) rfl rfl rfl (fun Qc qc => cP_endOfPins tPic_P hg qc) ?_
      rw [ep_nat g1 (by omega)]
      refine mx_icmp_ge 100 dV_backward_69 rfl (fun h69 => ?_) (fun h69 => ?_)
      · exact absurd h69 (nI_ge (by omega) (by omega))
      refine mx_aload_n dV_backward_72 rfl ?_
      refine mx_iload dV_backward_73 rfl ?_
      refine mx_aload_n dV_backward_75 rfl ?_
      refine mx_get 1 1 dV_backward_76 fgV_70 rfl rfl ?_
      refine mx_iload_n dV_backward_79 rfl ?_
      refine mx_iald dV_backward_80 rfl hg ?_
      rw [nI_clamp (by omega)]
      show mx_W mx_K mT mCl jV_backward (mR 2 43) _ _ (.int (I 10 g) :: _) _ _
      refine mx_iload dV_backward_81 rfl ?_
      refine mx_iload dV_backward_83 rfl ?_
      refine mx_isub dV_backward_85 ?_
      rw [pk_sub (by omega), show 2 * g - 2 + i - (2 * g - 2) = i by omega]
      refine mx_iload dV_backward_86 rfl ?_
      refine mx_S1 (R' := (mR 1 20)) [_, _, _] _ dV_backward_88 rfl mT_G jG_needed_ok jG_needed_v lkV_90 ⟨rfl, rfl, Nat.le_of_ble_eq_true rfl, Nat.le_of_ble_eq_true rfl⟩ rfl rfl (Nat.le_of_ble_eq_true rfl) (Nat.le_of_ble_eq_true rfl) (fun Qc qc => cG_needed qc) ?_
      refine mx_V1 (R' := (mR 0 0)) [_, _] _ dV_backward_91 rfl mT_G jB_putAtSink_ok jB_putAtSink_v lkV_93 ⟨rfl, rfl, Nat.le_of_ble_eq_true rfl, Nat.le_of_ble_eq_true rfl⟩ rfl rfl (Nat.le_of_ble_eq_true rfl) (Nat.le_of_ble_eq_true rfl) rfl rfl rfl (fun Qc qc => cB_putAtSink tPic_B (vp_in_nI (by omega) (by decide)) qc) ?_
      rw [nI_clamp (by omega), tPic_set]
      refine mx_iinc dV_backward_94 rfl (mx_inc _) (Nat.le_of_ble_eq_true rfl) rfl ?_
      refine mx_goto 62 dV_backward_97 rfl ?_
      exact ih
  have l1 : ∀ i, i ≤ 27 → mx_W mx_K mT mCl jV_backward (mR 2 43) 6 [.ref 7, .ref 1, .ref 3, .int (nI g), .int (lp (fun w (s : Int32 × bS) => if ¬ I 12 w = nI g then s else (gJn s.1 (bRd (s.2.2 w) (s.2.1 w - 1)), bTs s.2 w)) i (2, b)).1, .int (nI i), .retAddr 0] [] (tPic c fil I L (lp (fun w (s : Int32 × bS) => if ¬ I 12 w = nI g then s else (gJn s.1 (bRd (s.2.2 w) (s.2.1 w - 1)), bTs s.2 w)) i (2, b)).2) Q := by
    refine lp_down ?_ ?_
    · show mx_W mx_K mT mCl jV_backward (mR 2 43) 6 [.ref 7, .ref 1, .ref 3, .int (nI g), .int (kTake (I 12) g (2, b)).1, .int (nI 27), .retAddr 0] [] (tPic c fil I L (kTake (I 12) g (2, b)).2) Q
      unfold mBwd at hQ
      generalize kTake (I 12) g (2, b) = t at hQ ⊢
      refine mx_iload dV_backward_6 rfl ?_
      refine mx_bipush (27) dV_backward_8 (by decide) ?_
      refine mx_icmp_ge 43 dV_backward_10 rfl (fun h10 => ?_) (fun h10 => ?_)
      rotate_left
      · exact absurd (show (27 : Int32) ≤ nI 27 by decide) h10
      refine mx_iload dV_backward_43 rfl ?_
      refine mx_iconst (3) dV_backward_45 (by decide) ?_
      refine mx_icmp_ne 51 dV_backward_46 rfl (fun h46 => ?_) (fun h46 => ?_)
      · refine mx_aload_n dV_backward_51 rfl ?_
        refine mx_iload_n dV_backward_52 rfl ?_
        refine mx_V1 (R' := (mR 0 0)) [_] _ dV_backward_53 rfl mT_G jP_firstPin_ok jP_firstPin_v lkV_49 ⟨rfl, rfl, Nat.le_of_ble_eq_true rfl, Nat.le_of_ble_eq_true rfl⟩ rfl rfl (Nat.le_of_ble_eq_true rfl) (Nat.le_of_ble_eq_true rfl) rfl rfl rfl (fun Qc qc => cP_firstPin qc) ?_
        rw [fp_nat g1]
        refine mx_istore dV_backward_56 (Nat.le_of_ble_eq_true rfl) rfl ?_
        refine mx_iload dV_backward_58 rfl ?_
        refine mx_istore dV_backward_60 (Nat.le_of_ble_eq_true rfl) rfl ?_
        rw [if_pos h46] at hQ
        exact l2 _ _ hQ 0 (Nat.zero_le _)
      · refine mx_iconst (0) dV_backward_49 (by decide) ?_
        refine mx_iret dV_backward_50 rfl rfl ?_
        rw [if_neg (fun e => e h46)] at hQ
        exact hQ
    · intro i hi ih
      have ih : mx_W mx_K mT mCl jV_backward (mR 2 43) 6 [.ref 7, .ref 1, .ref 3, .int (nI g), .int ((fun w (s : Int32 × bS) => if ¬ I 12 w = nI g then s else (gJn s.1 (bRd (s.2.2 w) (s.2.1 w - 1)), bTs s.2 w)) i (lp (fun w (s : Int32 × bS) => if ¬ I 12 w = nI g then s else (gJn s.1 (bRd (s.2.2 w) (s.2.1 w - 1)), bTs s.2 w)) i (2, b))).1, .int (nI (i + 1)), .retAddr 0] [] (tPic c fil I L ((fun w (s : Int32 × bS) => if ¬ I 12 w = nI g then s else (gJn s.1 (bRd (s.2.2 w) (s.2.1 w - 1)), bTs s.2 w)) i (lp (fun w (s : Int32 × bS) => if ¬ I 12 w = nI g then s else (gJn s.1 (bRd (s.2.2 w) (s.2.1 w - 1)), bTs s.2 w)) i (2, b))).2) Q := ih
      generalize lp (fun w (s : Int32 × bS) => if ¬ I 12 w = nI g then s else (gJn s.1 (bRd (s.2.2 w) (s.2.1 w - 1)), bTs s.2 w)) i (2, b) = t at ih ⊢
      dsimp only at ih
      refine mx_iload dV_backward_6 rfl ?_
      refine mx_bipush (27) dV_backward_8 (by decide) ?_
      refine mx_icmp_ge 43 dV_backward_10 rfl (fun h10 => ?_) (fun h10 => ?_)
      · exact absurd h10 (nI_ge (b := 27) hi (by decide))
      refine mx_aload_n dV_backward_13 rfl ?_
      refine mx_get 1 3 dV_backward_14 fgV_61 rfl rfl ?_
      refine mx_iload dV_backward_17 rfl ?_
      refine mx_iald dV_backward_19 rfl (vp_in_nI (by omega) (by decide)) ?_
      rw [nI_clamp (by omega)]
      show mx_W mx_K mT mCl jV_backward (mR 2 43) _ _ (.int (I 12 i) :: _) _ _
      refine mx_iload_n dV_backward_20 rfl ?_
      refine mx_icmp_ne 37 dV_backward_21 rfl (fun h21 => ?_) (fun h21 => ?_)
      · first | rw [if_pos h21] at ih | rw [if_neg (fun e => e h21)] at ih
        refine mx_iinc dV_backward_37 rfl (mx_inc _) (Nat.le_of_ble_eq_true rfl) rfl ?_
        refine mx_goto 6 dV_backward_40 rfl ?_
        exact ih
      · refine mx_iload dV_backward_24 rfl ?_
        refine mx_aload_n dV_backward_26 rfl ?_
        refine mx_iload dV_backward_27 rfl ?_
        refine mx_V1 (R' := (mR 1 22)) [_] _ dV_backward_29 rfl mT_G jB_takeAtSource_ok jB_takeAtSource_v lkV_83 ⟨rfl, rfl, Nat.le_of_ble_eq_true rfl, Nat.le_of_ble_eq_true rfl⟩ rfl rfl (Nat.le_of_ble_eq_true rfl) (Nat.le_of_ble_eq_true rfl) rfl rfl rfl (fun Qc qc => cB_takeAtSource tPic_B (vp_in_nI (by omega) (by decide)) qc) ?_
        rw [nI_clamp (by omega), tPic_setl]
        refine mx_S1 (R' := (mR 0 0)) [_, _] _ dV_backward_32 rfl mT_G jV_joined_ok jV_joined_v lkV_86 ⟨rfl, rfl, Nat.le_of_ble_eq_true rfl, Nat.le_of_ble_eq_true rfl⟩ rfl rfl (Nat.le_of_ble_eq_true rfl) (Nat.le_of_ble_eq_true rfl) (fun Qc qc => cV_joined qc) ?_
        refine mx_istore dV_backward_35 (Nat.le_of_ble_eq_true rfl) rfl ?_
        first | rw [if_pos h21] at ih | rw [if_neg (fun e => e h21)] at ih
        refine mx_iinc dV_backward_37 rfl (mx_inc _) (Nat.le_of_ble_eq_true rfl) rfl ?_
        refine mx_goto 6 dV_backward_40 rfl ?_
        exact ih
  refine mx_iconst (2) dV_backward_0 (by decide) ?_
  refine mx_istore dV_backward_1 (Nat.le_of_ble_eq_true rfl) rfl ?_
  refine mx_iconst (0) dV_backward_3 (by decide) ?_
  refine mx_istore dV_backward_4 (Nat.le_of_ble_eq_true rfl) rfl ?_
  exact l1 0 (Nat.zero_le _)
def mDone (c : Nat) (lf : Nat → Int32) : Bool := allB c (fun i => decide (lf (i + 1) = 0))
theorem cV_isDone {c : Nat} {cnt fil : Int32} {I : Nat → Nat → Int32} {L : Nat → Nat → Int64} {Q : mx_O → List va_E → Prop} (hc : c ≤ 12) (hQ : Q (.inl (some (.int (i01 (mDone c (I 23)))))) (pic cnt fil I L)) : mx_W mx_K mT mCl jV_isDone (mR 0 0) 0 [.ref 7, .int (nI c), .retAddr 0] [] (pic cnt fil I L) Q := by
  have hloop : ∀ i, i ≤ c → (∀ j, j < i → I 23 (j + 1) = 0) → mx_W mx_K mT mCl jV_isDone (mR 0 0) 2 [.ref 7, .int (nI c), .int (nI (i + 1))] [] (pic cnt fil I L) Q := by
    refine lp_down ?_ ?_
    · intro hno
      refine mx_iload_n dV_isDone_2 rfl ?_
      refine mx_iload_n dV_isDone_3 rfl ?_
      refine mx_icmp_gt 24 dV_isDone_4 rfl (fun h4 => ?_) (fun h4 => ?_)
      rotate_left
      · exact absurd (nI_lt (Nat.lt_succ_self c) (by omega)) h4
      refine mx_iconst (1) dV_isDone_24 (by decide) ?_
      refine mx_iret dV_isDone_25 rfl rfl ?_
      rw [i01_t (show mDone c (I 23) = true from allB_iff.mpr (fun j hj => decide_eq_true (hno j hj)))] at hQ
      exact hQ
    · intro i hi ih hno
      refine mx_iload_n dV_isDone_2 rfl ?_
      refine mx_iload_n dV_isDone_3 rfl ?_
      refine mx_icmp_gt 24 dV_isDone_4 rfl (fun h4 => ?_) (fun h4 => ?_)
      · exact absurd h4 (nI_nlt (by omega) (by omega))
      refine mx_aload_n dV_isDone_7 rfl ?_
      refine mx_get 6 0 dV_isDone_8 fgV_9 rfl rfl ?_
      refine mx_iload_n dV_isDone_11 rfl ?_
      refine mx_iald dV_isDone_12 rfl (vp_in_nI (by omega) (by decide)) ?_
      rw [nI_clamp (by omega)]
      refine mx_if_eq 18 dV_isDone_13 rfl (fun h13 => ?_) (fun h13 => ?_)
      · refine mx_iinc dV_isDone_18 rfl (mx_inc _) (Nat.le_of_ble_eq_true rfl) rfl ?_
        refine mx_goto 2 dV_isDone_21 rfl ?_
        refine ih (fun j hj => ?_)
        by_cases e : j = i
        · subst e; exact h13
        · exact hno j (by omega)
      · refine mx_iconst (0) dV_isDone_16 (by decide) ?_
        refine mx_iret dV_isDone_17 rfl rfl ?_
        rw [i01_f (show mDone c (I 23) = false from allB_no hi (by simpa using h13))] at hQ
        exact hQ
  refine mx_iconst (1) dV_isDone_0 (by decide) ?_
  refine mx_istore_n dV_isDone_1 (Nat.le_of_ble_eq_true rfl) rfl ?_
  exact hloop 0 (Nat.zero_le _) (fun j hj => absurd hj (Nat.not_lt_zero j))
/-- bank, moves left -/
abbrev mS : Type := bS × (Nat → Int32)
def mPic (c : Nat) (fil : Int32) (I : Nat → Nat → Int32) (L : Nat → Nat → Int64) (s : mS) : List va_E := tPic c fil (upI I 23 s.2) L s.1
theorem mPic_left {c : Nat} {fil : Int32} {I : Nat → Nat → Int32} {L : Nat → Nat → Int64} {s : mS} (f : Nat → Int32) : (mPic c fil I L s).set 23 (eI 13 f) = mPic c fil I L (s.1, f) := by
  unfold mPic tPic
  rw [pic_23, upI_comm _ _ _ (by decide : (15 : Nat) ≠ 23), upI_upI]
def mStep (kd sr : Nat → Int32) (g : Nat) (s : mS) : mS × Bool :=
  if ¬ 0 ≤ s.2 g ∧ canF kd s.1.1 g = true then ((mFwd kd sr g s.1, upd s.2 g (s.2 g + 1)), true)
  else if ¬ s.2 g ≤ 0 ∧ canB sr s.1.1 g = true then (((mBwd kd sr g s.1).1, upd s.2 g (s.2 g - 1)), (mBwd kd sr g s.1).2)
  else (s, true)
/-- a loop that a false ends -/
def lpB {α : Type} (f : Nat → α → α × Bool) : Nat → Nat → α → α × Bool
  | 0, _, s => (s, true)
  | n + 1, i, s => if (f i s).2 = true then lpB f n (i + 1) (f i s).1 else f i s
def mEach (kd sr : Nat → Int32) (c : Nat) (s : mS) : mS × Bool := lpB (fun i s => mStep kd sr (i + 1) s) c 0 s
theorem cV_moveEach {c : Nat} {fil : Int32} {I : Nat → Nat → Int32} {L : Nat → Nat → Int64} {Q : mx_O → List va_E → Prop} (hc : c ≤ 12) {s : mS} (hQ : Q (.inl (some (.int (i01 (mEach (I 10) (I 12) c s).2)))) (mPic c fil I L (mEach (I 10) (I 12) c s).1)) : mx_W mx_K mT mCl jV_moveEach (mR 3 75) 0 [.ref 7, .ref 1, .ref 3, .retAddr 0] [] (mPic c fil I L s) Q := by
  have hloop : ∀ i, i ≤ c → ∀ s : mS, Q (.inl (some (.int (i01 (lpB (fun i s => mStep (I 10) (I 12) (i + 1) s) (c - i) i s).2)))) (mPic c fil I L (lpB (fun i s => mStep (I 10) (I 12) (i + 1) s) (c - i) i s).1) → mx_W mx_K mT mCl jV_moveEach (mR 3 75) 2 [.ref 7, .ref 1, .ref 3, .int (nI (i + 1))] [] (mPic c fil I L s) Q := by
    refine lp_down ?_ ?_
    · intro s hq
      rw [Nat.sub_self] at hq
      refine mx_iload_n dV_moveEach_2 rfl ?_
      refine mx_aload_n dV_moveEach_3 rfl ?_
      refine mx_get 1 0 dV_moveEach_4 fgV_15 rfl rfl ?_
      refine mx_icmp_gt 96 dV_moveEach_7 rfl (fun h7 => ?_) (fun h7 => ?_)
      rotate_left
      · exact absurd (nI_lt (Nat.lt_succ_self c) (by omega)) h7
      refine mx_iconst (1) dV_moveEach_96 (by decide) ?_
      refine mx_iret dV_moveEach_97 rfl rfl ?_
      exact hq
    · intro i hi ih s hq
      rw [show c - i = (c - (i + 1)) + 1 by omega] at hq
      unfold lpB at hq
      (try dsimp only at hq)
      have hnx : mx_W mx_K mT mCl jV_moveEach (mR 3 75) 2 [.ref 7, .ref 1, .ref 3, .int (nI (i + 1 + 1))] [] (mPic c fil I L (mStep (I 10) (I 12) (i + 1) s).1) Q ∨ (mStep (I 10) (I 12) (i + 1) s).2 = false := by
        cases e : (mStep (I 10) (I 12) (i + 1) s).2 with
        | false => exact Or.inr rfl
        | true =>
          rw [if_pos e] at hq
          exact Or.inl (ih _ hq)
      have hback : mx_W mx_K mT mCl jV_moveEach (mR 3 75) 49 [.ref 7, .ref 1, .ref 3, .int (nI (i + 1))] [] (mPic c fil I L s) Q ∨ (¬ 0 ≤ s.2 (i + 1) ∧ canF (I 10) s.1.1 (i + 1) = true) := by
        by_cases e0 : ¬ 0 ≤ s.2 (i + 1) ∧ canF (I 10) s.1.1 (i + 1) = true
        · exact Or.inr e0
        · refine Or.inl ?_
          refine mx_aload_n dV_moveEach_49 rfl ?_
          refine mx_get 6 0 dV_moveEach_50 fgV_9 rfl rfl ?_
          refine mx_iload_n dV_moveEach_53 rfl ?_
          refine mx_iald dV_moveEach_54 rfl (vp_in_nI (by omega) (by decide)) ?_
          rw [nI_clamp (by omega)]
          show mx_W mx_K mT mCl jV_moveEach (mR 3 75) _ _ (.int (s.2 (i + 1)) :: _) _ _
          refine mx_if_le 90 dV_moveEach_55 rfl (fun h55 => ?_) (fun h55 => ?_)
          · have e1 : mStep (I 10) (I 12) (i + 1) s = (s, true) := by unfold mStep; rw [if_neg e0, if_neg (fun e => e.1 h55)]
            rw [e1] at hnx
            rcases hnx with hnx | hnx
            · refine mx_iinc dV_moveEach_90 rfl (mx_inc _) (Nat.le_of_ble_eq_true rfl) rfl ?_
              refine mx_goto 2 dV_moveEach_93 rfl ?_
              exact hnx
            · cases hnx
          · refine mx_aload_n dV_moveEach_58 rfl ?_
            refine mx_aload_n dV_moveEach_59 rfl ?_
            refine mx_aload_n dV_moveEach_60 rfl ?_
            refine mx_iload_n dV_moveEach_61 rfl ?_
            refine mx_V1 (R' := (mR 1 21)) [_, _, _] _ dV_moveEach_62 rfl mT_G jV_canBackward_ok jV_canBackward_v lkV_43 ⟨rfl, rfl, Nat.le_of_ble_eq_true rfl, Nat.le_of_ble_eq_true rfl⟩ rfl rfl (Nat.le_of_ble_eq_true rfl) (Nat.le_of_ble_eq_true rfl) rfl rfl rfl (fun Qc qc => cV_canBackward (I := upI I 23 s.2) qc) ?_
            refine mx_if_eq 90 dV_moveEach_65 rfl (fun h65 => ?_) (fun h65 => ?_)
            · have e2 : canB (I 12) s.1.1 (i + 1) = false := i01_z h65
              have e1 : mStep (I 10) (I 12) (i + 1) s = (s, true) := by unfold mStep; rw [if_neg e0, if_neg (fun e => by rw [e2] at e; cases e.2)]
              rw [e1] at hnx
              rcases hnx with hnx | hnx
              · refine mx_iinc dV_moveEach_90 rfl (mx_inc _) (Nat.le_of_ble_eq_true rfl) rfl ?_
                refine mx_goto 2 dV_moveEach_93 rfl ?_
                exact hnx
              · cases hnx
            · refine mx_aload_n dV_moveEach_68 rfl ?_
              refine mx_get 6 0 dV_moveEach_69 fgV_9 rfl rfl ?_
              refine mx_iload_n dV_moveEach_72 rfl ?_
              refine mx_dup2 dV_moveEach_73 rfl rfl ?_
              refine mx_iald dV_moveEach_74 rfl (vp_in_nI (by omega) (by decide)) ?_
              rw [nI_clamp (by omega)]
              show mx_W mx_K mT mCl jV_moveEach (mR 3 75) _ _ (.int (s.2 (i + 1)) :: _) _ _
              refine mx_iconst (1) dV_moveEach_75 (by decide) ?_
              refine mx_isub dV_moveEach_76 ?_
              refine mx_iast dV_moveEach_77 rfl (vp_in_nI (by omega) (by decide)) ?_
              rw [nI_clamp (by omega)]
              refine mx_eqs rfl rfl rfl (mPic_left _) ?_
              refine mx_aload_n dV_moveEach_78 rfl ?_
              refine mx_aload_n dV_moveEach_79 rfl ?_
              refine mx_aload_n dV_moveEach_80 rfl ?_
              refine mx_iload_n dV_moveEach_81 rfl ?_
              refine mx_V1 (R' := (mR 2 43)) [_, _, _] _ dV_moveEach_82 rfl mT_G jV_backward_ok jV_backward_v lkV_46 ⟨rfl, rfl, Nat.le_of_ble_eq_true rfl, Nat.le_of_ble_eq_true rfl⟩ rfl rfl (Nat.le_of_ble_eq_true rfl) (Nat.le_of_ble_eq_true rfl) rfl rfl rfl (fun Qc qc => cV_backward (I := upI I 23 (upd s.2 (i + 1) (s.2 (i + 1) - 1))) (by omega) (by omega) qc) ?_
              refine mx_if_ne 90 dV_moveEach_85 rfl (fun h85 => ?_) (fun h85 => ?_)
              · have e2 : canB (I 12) s.1.1 (i + 1) = true := i01_nz h65
                have e1 : mStep (I 10) (I 12) (i + 1) s = (((mBwd (I 10) (I 12) (i + 1) s.1).1, upd s.2 (i + 1) (s.2 (i + 1) - 1)), (mBwd (I 10) (I 12) (i + 1) s.1).2) := by unfold mStep; rw [if_neg e0, if_pos ⟨h55, e2⟩]
                have e3 : (mBwd (I 10) (I 12) (i + 1) s.1).2 = true := i01_nz h85
                rw [e1] at hnx
                rcases hnx with hnx | hnx
                · refine mx_iinc dV_moveEach_90 rfl (mx_inc _) (Nat.le_of_ble_eq_true rfl) rfl ?_
                  refine mx_goto 2 dV_moveEach_93 rfl ?_
                  exact hnx
                · dsimp only at hnx; rw [e3] at hnx; cases hnx
              · refine mx_iconst (0) dV_moveEach_88 (by decide) ?_
                refine mx_iret dV_moveEach_89 rfl rfl ?_
                have e2 : canB (I 12) s.1.1 (i + 1) = true := i01_nz h65
                have e1 : mStep (I 10) (I 12) (i + 1) s = (((mBwd (I 10) (I 12) (i + 1) s.1).1, upd s.2 (i + 1) (s.2 (i + 1) - 1)), (mBwd (I 10) (I 12) (i + 1) s.1).2) := by unfold mStep; rw [if_neg e0, if_pos ⟨h55, e2⟩]
                have e3 : (mBwd (I 10) (I 12) (i + 1) s.1).2 = false := i01_z h85
                rw [e1] at hq
                (try dsimp only at hq)
                rw [e3] at hq
                exact hq
      refine mx_iload_n dV_moveEach_2 rfl ?_
      refine mx_aload_n dV_moveEach_3 rfl ?_
      refine mx_get 1 0 dV_moveEach_4 fgV_15 rfl rfl ?_
      refine mx_icmp_gt 96 dV_moveEach_7 rfl (fun h7 => ?_) (fun h7 => ?_)
      · exact absurd h7 (nI_nlt (by omega) (by omega))
      refine mx_aload_n dV_moveEach_10 rfl ?_
      refine mx_get 6 0 dV_moveEach_11 fgV_9 rfl rfl ?_
      refine mx_iload_n dV_moveEach_14 rfl ?_
      refine mx_iald dV_moveEach_15 rfl (vp_in_nI (by omega) (by decide)) ?_
      rw [nI_clamp (by omega)]
      show mx_W mx_K mT mCl jV_moveEach (mR 3 75) _ _ (.int (s.2 (i + 1)) :: _) _ _
      refine mx_if_ge 49 dV_moveEach_16 rfl (fun h16 => ?_) (fun h16 => ?_)
      · rcases hback with hb | hb
        · exact hb
        · exact absurd h16 hb.1
      · refine mx_aload_n dV_moveEach_19 rfl ?_
        refine mx_aload_n dV_moveEach_20 rfl ?_
        refine mx_aload_n dV_moveEach_21 rfl ?_
        refine mx_iload_n dV_moveEach_22 rfl ?_
        refine mx_V1 (R' := (mR 2 42)) [_, _, _] _ dV_moveEach_23 rfl mT_G jV_canForward_ok jV_canForward_v lkV_35 ⟨rfl, rfl, Nat.le_of_ble_eq_true rfl, Nat.le_of_ble_eq_true rfl⟩ rfl rfl (Nat.le_of_ble_eq_true rfl) (Nat.le_of_ble_eq_true rfl) rfl rfl rfl (fun Qc qc => cV_canForward (I := upI I 23 s.2) (by omega) (by omega) qc) ?_
        refine mx_if_eq 49 dV_moveEach_26 rfl (fun h26 => ?_) (fun h26 => ?_)
        · rcases hback with hb | hb
          · exact hb
          · exact absurd hb.2 (by rw [show canF (I 10) s.1.1 (i + 1) = false from i01_z h26]; decide)
        · refine mx_aload_n dV_moveEach_29 rfl ?_
          refine mx_get 6 0 dV_moveEach_30 fgV_9 rfl rfl ?_
          refine mx_iload_n dV_moveEach_33 rfl ?_
          refine mx_dup2 dV_moveEach_34 rfl rfl ?_
          refine mx_iald dV_moveEach_35 rfl (vp_in_nI (by omega) (by decide)) ?_
          rw [nI_clamp (by omega)]
          show mx_W mx_K mT mCl jV_moveEach (mR 3 75) _ _ (.int (s.2 (i + 1)) :: _) _ _
          refine mx_iconst (1) dV_moveEach_36 (by decide) ?_
          refine mx_iadd dV_moveEach_37 ?_
          refine mx_iast dV_moveEach_38 rfl (vp_in_nI (by omega) (by decide)) ?_
          rw [nI_clamp (by omega)]
          refine mx_eqs rfl rfl rfl (mPic_left _) ?_
          refine mx_aload_n dV_moveEach_39 rfl ?_
          refine mx_aload_n dV_moveEach_40 rfl ?_
          refine mx_aload_n dV_moveEach_41 rfl ?_
          refine mx_iload_n dV_moveEach_42 rfl ?_
          refine mx_V1 (R' := (mR 2 47)) [_, _, _] _ dV_moveEach_43 rfl mT_G jV_forward_ok jV_forward_v lkV_39 ⟨rfl, rfl, Nat.le_of_ble_eq_true rfl, Nat.le_of_ble_eq_true rfl⟩ rfl rfl (Nat.le_of_ble_eq_true rfl) (Nat.le_of_ble_eq_true rfl) rfl rfl rfl (fun Qc qc => cV_forward (I := upI I 23 (upd s.2 (i + 1) (s.2 (i + 1) + 1))) (by omega) (by omega) qc) ?_
          refine mx_goto 90 dV_moveEach_46 rfl ?_
          have e0 : ¬ 0 ≤ s.2 (i + 1) ∧ canF (I 10) s.1.1 (i + 1) = true := ⟨h16, i01_nz h26⟩
          have e1 : mStep (I 10) (I 12) (i + 1) s = ((mFwd (I 10) (I 12) (i + 1) s.1, upd s.2 (i + 1) (s.2 (i + 1) + 1)), true) := by unfold mStep; rw [if_pos e0]
          rw [e1] at hnx
          rcases hnx with hnx | hnx
          · refine mx_iinc dV_moveEach_90 rfl (mx_inc _) (Nat.le_of_ble_eq_true rfl) rfl ?_
            refine mx_goto 2 dV_moveEach_93 rfl ?_
            exact hnx
          · cases hnx
  refine mx_iconst (1) dV_moveEach_0 (by decide) ?_
  refine mx_istore_n dV_moveEach_1 (Nat.le_of_ble_eq_true rfl) rfl ?_
  exact hloop 0 (Nat.zero_le _) s hQ
def mRun (kd sr : Nat → Int32) (c : Nat) : Nat → mS → mS × Bool
  | 0, s => (s, false)
  | n + 1, s => if mDone c s.2 = true then (s, true) else if (mEach kd sr c s).2 = true then mRun kd sr c n (mEach kd sr c s).1 else ((mEach kd sr c s).1, false)
/-- what Mover.follow does -/
def mFol (c : Nat) (I : Nat → Nat → Int32) (L : Nat → Nat → Int64) : mS × Bool := mRun (I 10) (I 12) c 73 ((I 15, L 16), va_cpy (I 21) (I 23) 0 0 (c + 1))
theorem mPic_own {c : Nat} {fil : Int32} {I : Nat → Nat → Int32} {L : Nat → Nat → Int64} (f : Nat → Int32) : mPic c fil I L ((I 15, L 16), f) = pic (nI c) fil (upI I 23 f) L := by
  unfold mPic tPic
  show pic (nI c) fil (upI (upI I 23 f) 15 (upI I 23 f 15)) (upL L 16 (L 16)) = _
  rw [upI_own, upL_own]
theorem cV_follow {c : Nat} {fil : Int32} {I : Nat → Nat → Int32} {L : Nat → Nat → Int64} {Q : mx_O → List va_E → Prop} (hc : c ≤ 12) (hQ : Q (.inl (some (.int (i01 (mFol c I L).2)))) (mPic c fil I L (mFol c I L).1)) : mx_W mx_K mT mCl jV_follow (mR 4 98) 0 [.ref 7, .ref 1, .ref 3, .ref 21, .retAddr 0] [] (pic (nI c) fil I L) Q := by
  have hloop : ∀ r, r ≤ 73 → ∀ s : mS, Q (.inl (some (.int (i01 (mRun (I 10) (I 12) c (73 - r) s).2)))) (mPic c fil I L (mRun (I 10) (I 12) c (73 - r) s).1) → mx_W mx_K mT mCl jV_follow (mR 4 98) 19 [.ref 7, .ref 1, .ref 3, .ref 21, .int (nI r)] [] (mPic c fil I L s) Q := by
    refine lp_down ?_ ?_
    · intro s hq
      rw [Nat.sub_self] at hq
      refine mx_iload dV_follow_19 rfl ?_
      refine mx_bipush (72) dV_follow_21 (by decide) ?_
      refine mx_icmp_gt 56 dV_follow_23 rfl (fun h23 => ?_) (fun h23 => ?_)
      rotate_left
      · exact absurd (show (72 : Int32) < nI 73 by decide) h23
      refine mx_iconst (0) dV_follow_56 (by decide) ?_
      refine mx_iret dV_follow_57 rfl rfl ?_
      exact hq
    · intro r hr ih s hq
      rw [show 73 - r = (73 - (r + 1)) + 1 by omega] at hq
      unfold mRun at hq
      refine mx_iload dV_follow_19 rfl ?_
      refine mx_bipush (72) dV_follow_21 (by decide) ?_
      refine mx_icmp_gt 56 dV_follow_23 rfl (fun h23 => ?_) (fun h23 => ?_)
      · exact absurd h23 (nI_nlt (b := r) (a := 72) (by omega) (by decide))
      refine mx_aload_n dV_follow_26 rfl ?_
      refine mx_aload_n dV_follow_27 rfl ?_
      refine mx_get 1 0 dV_follow_28 fgV_15 rfl rfl ?_
      refine mx_V1 (R' := (mR 0 0)) [_] _ dV_follow_31 rfl mT_G jV_isDone_ok jV_isDone_v lkV_27 ⟨rfl, rfl, Nat.le_of_ble_eq_true rfl, Nat.le_of_ble_eq_true rfl⟩ rfl rfl (Nat.le_of_ble_eq_true rfl) (Nat.le_of_ble_eq_true rfl) rfl rfl rfl (fun Qc qc => cV_isDone (I := upI (upI I 23 s.2) 15 s.1.1) hc qc) ?_
      refine mx_if_eq 39 dV_follow_34 rfl (fun h34 => ?_) (fun h34 => ?_)
      · refine mx_aload_n dV_follow_39 rfl ?_
        refine mx_aload_n dV_follow_40 rfl ?_
        refine mx_aload_n dV_follow_41 rfl ?_
        refine mx_V1 (R' := (mR 3 75)) [_, _] _ dV_follow_42 rfl mT_G jV_moveEach_ok jV_moveEach_v lkV_31 ⟨rfl, rfl, Nat.le_of_ble_eq_true rfl, Nat.le_of_ble_eq_true rfl⟩ rfl rfl (Nat.le_of_ble_eq_true rfl) (Nat.le_of_ble_eq_true rfl) rfl rfl rfl (fun Qc qc => cV_moveEach hc qc) ?_
        refine mx_if_ne 50 dV_follow_45 rfl (fun h45 => ?_) (fun h45 => ?_)
        · have e2 : ¬ mDone c s.2 = true := by rw [show mDone c s.2 = false from i01_z h34]; decide
          rw [if_neg e2, if_pos (i01_nz h45)] at hq
          refine mx_iinc dV_follow_50 rfl (mx_inc _) (Nat.le_of_ble_eq_true rfl) rfl ?_
          refine mx_goto 19 dV_follow_53 rfl ?_
          exact ih _ hq
        · refine mx_iconst (0) dV_follow_48 (by decide) ?_
          refine mx_iret dV_follow_49 rfl rfl ?_
          have e2 : ¬ mDone c s.2 = true := by rw [show mDone c s.2 = false from i01_z h34]; decide
          rw [if_neg e2, if_neg (by rw [i01_z h45]; decide)] at hq
          exact hq
      · refine mx_iconst (1) dV_follow_37 (by decide) ?_
        refine mx_iret dV_follow_38 rfl rfl ?_
        have e2 : mDone c s.2 = true := i01_nz h34
        rw [if_pos e2] at hq
        exact hq
  refine mx_aload_n dV_follow_0 rfl ?_
  refine mx_iconst (0) dV_follow_1 (by decide) ?_
  refine mx_aload_n dV_follow_2 rfl ?_
  refine mx_get 6 0 dV_follow_3 fgV_9 rfl rfl ?_
  refine mx_iconst (0) dV_follow_6 (by decide) ?_
  refine mx_aload_n dV_follow_7 rfl ?_
  refine mx_get 1 0 dV_follow_8 fgV_15 rfl rfl ?_
  refine mx_iconst (1) dV_follow_11 (by decide) ?_
  refine mx_iadd dV_follow_12 ?_
  rw [show nI c + 1 = nI (c + 1) from nI_1 c]
  refine mx_copyi dV_follow_13 (mT_3 (i := 100) rfl rfl) (mT_2 (i := 15) rfl rfl) (mT_2 (i := 14) rfl rfl) (mT_1 (i := 15) rfl rfl) (b0 := 21) (b1 := 23) rfl rfl (by decide) (by decide) (nI_pos (by omega)) (by rw [nI_clamp (by omega), sb_cl0]; omega) (by rw [nI_clamp (by omega), sb_cl0]; omega) (Nat.le_of_ble_eq_true rfl) (Nat.le_of_ble_eq_true rfl) ?_
  refine mx_iconst (0) dV_follow_16 (by decide) ?_
  refine mx_istore dV_follow_17 (Nat.le_of_ble_eq_true rfl) rfl ?_
  rw [nI_clamp (by omega), sb_cl0]
  refine mx_eqs rfl rfl rfl ?_ (hloop 0 (Nat.zero_le _) _ hQ)
  rw [mPic_own]
  exact pic_23 _
