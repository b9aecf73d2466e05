/-! Order: isReady, placeReady, arrange; A.isSound. -/
def bh (sr : Nat → Int32) (w : Nat) : Int32 := if sr w < 0 then 0 else sr w
theorem gb_nat {sr : Nat → Int32} {w : Nat} (h : w < 2 ^ 31) : qP_gateBehind sr (nI w) = bh sr w := by
  unfold qP_gateBehind bh
  rw [nI_clamp h]
theorem bh_in {sr : Nat → Int32} {w : Nat} (h : sr w ≤ 12) : vp_in (bh sr w) 13 := by
  rw [vp_in_iff]
  unfold bh
  have h2 : (sr w).toInt ≤ 12 := by simpa using Int32.le_iff_toInt_le.mp h
  split
  · decide
  · rename_i h3
    have h4 : ¬ (sr w).toInt < 0 := fun e => h3 (Int32.lt_iff_toInt_lt.mpr (by simpa using e))
    omega
/-- gate g waits for none: of its wires none without registers comes from a gate that isn't placed -/
def rdyB (sr ln P : Nat → Int32) (w : Nat) : Bool := !(decide (ln w = 0) && (decide (¬ bh sr w = 0) && decide (P (bh sr w).toNatClampNeg = 0)))
def rdyK (kd sr ln P : Nat → Int32) (g : Nat) : Bool := allB (pn kd g) (fun k => rdyB sr ln P (2 * g - 2 + k))
theorem cO_isReady {c : Nat} {fil : Int32} {I : Nat → Nat → Int32} {L : Nat → Nat → Int64} {Q : mx_O → List va_E → Prop} (hc : c ≤ 12) (hsr : ∀ w, w < 27 → I 12 w ≤ 12) {g : Nat} (g1 : 1 ≤ g) (g2 : g ≤ 12) (hQ : Q (.inl (some (.int (i01 (rdyK (I 10) (I 12) (I 13) (I 18) g))))) ((pic (nI c) fil I L))) : mx_W mx_K mT mCl jO_isReady (mR 2 45) 0 [.ref 4, .ref 1, .ref 2, .int (nI g), .retAddr 0, .retAddr 0] [] (pic (nI c) fil I L) Q := by
  have hg : vp_in (nI g) 13 := vp_in_nI (by omega) (by decide)
  have hp2 := pn_le (I 10) g
  have hloop : ∀ i, i ≤ pn (I 10) g → (∀ j, j < i → rdyB (I 12) (I 13) (I 18) (2 * g - 2 + j) = true) → mx_W mx_K mT mCl jO_isReady (mR 2 45) 7 [.ref 4, .ref 1, .ref 2, .int (nI g), .int (nI (2 * g - 2 + i)), .retAddr 0] [] (pic (nI c) fil I L) Q := by
    refine lp_down ?_ ?_
    · intro hno
      refine mx_iload dO_isReady_7 rfl ?_
      refine mx_aload_n dO_isReady_9 rfl ?_
      refine mx_iload_n dO_isReady_10 rfl ?_
      refine mx_V1 (R' := (mR 1 21)) [_] _ dO_isReady_11 rfl mT_G jP_endOfPins_ok jP_endOfPins_v lkO_40 ⟨rfl, rfl, Nat.le_of_ble_eq_true rfl, Nat.le_of_ble_eq_true rfl⟩ rfl rfl (Nat.le_of_ble_eq_true rfl) (Nat.le_of_ble_eq_true rfl) pic_P.1 rfl rfl (fun Qc qc => cP_endOfPins pic_P hg qc) ?_
      rw [ep_nat g1 (by omega)]
      refine mx_icmp_ge 57 dO_isReady_14 rfl (fun h14 => ?_) (fun h14 => ?_)
      rotate_left
      · exact absurd (nI_le (Nat.le_refl _) (by omega)) h14
      refine mx_iconst (1) dO_isReady_57 (by decide) ?_
      refine mx_iret dO_isReady_58 rfl rfl ?_
      rw [i01_t (show rdyK (I 10) (I 12) (I 13) (I 18) g = true from allB_iff.mpr hno)] at hQ
      exact hQ
    · intro i hi ih hno
      refine mx_iload dO_isReady_7 rfl ?_
      refine mx_aload_n dO_isReady_9 rfl ?_
      refine mx_iload_n dO_isReady_10 rfl ?_
      refine mx_V1 (R' := (mR 1 21)) [_] _ dO_isReady_11 rfl mT_G jP_endOfPins_ok jP_endOfPins_v lkO_40 ⟨rfl, rfl, Nat.le_of_ble_eq_true rfl, Nat.le_of_ble_eq_true rfl⟩ rfl rfl (Nat.le_of_ble_eq_true rfl) (Nat.le_of_ble_eq_true rfl) pic_P.1 rfl rfl (fun Qc qc => cP_endOfPins pic_P hg qc) ?_
      rw [ep_nat g1 (by omega)]
      refine mx_icmp_ge 57 dO_isReady_14 rfl (fun h14 => ?_) (fun h14 => ?_)
      · exact absurd h14 (nI_ge (by omega) (by omega))
      refine mx_aload_n dO_isReady_17 rfl ?_
      refine mx_iload dO_isReady_18 rfl ?_
      refine mx_V1 (R' := (mR 1 24)) [_] _ dO_isReady_20 rfl mT_G jP_gateBehind_ok jP_gateBehind_v lkO_43 ⟨rfl, rfl, Nat.le_of_ble_eq_true rfl, Nat.le_of_ble_eq_true rfl⟩ rfl rfl (Nat.le_of_ble_eq_true rfl) (Nat.le_of_ble_eq_true rfl) pic_P.1 rfl rfl (fun Qc qc => cP_gateBehind pic_P (vp_in_nI (by omega) (by decide)) qc) ?_
      rw [gb_nat (by omega)]
      refine mx_istore dO_isReady_23 (Nat.le_of_ble_eq_true rfl) rfl ?_
      refine mx_aload_n dO_isReady_25 rfl ?_
      refine mx_iload dO_isReady_26 rfl ?_
      refine mx_V1 (R' := (mR 0 0)) [_] _ dO_isReady_28 rfl mT_G jB_length_ok jB_length_v lkO_46 ⟨rfl, rfl, Nat.le_of_ble_eq_true rfl, Nat.le_of_ble_eq_true rfl⟩ rfl rfl (Nat.le_of_ble_eq_true rfl) (Nat.le_of_ble_eq_true rfl) pic_B.1 rfl rfl (fun Qc qc => cB_length pic_B (vp_in_nI (by omega) (by decide)) qc) ?_
      rw [nI_clamp (by omega)]
      refine mx_if_ne 51 dO_isReady_31 rfl (fun h31 => ?_) (fun h31 => ?_)
      · refine mx_iinc dO_isReady_51 rfl (mx_inc _) (Nat.le_of_ble_eq_true rfl) rfl ?_
        refine mx_goto 7 dO_isReady_54 rfl ?_
        refine mx_drop 5 ?_
        refine ih (fun j hj => ?_)
        by_cases e : j = i
        · subst e; simp [rdyB, h14, h31]
        · exact hno j (by omega)
      · refine mx_iload dO_isReady_34 rfl ?_
        refine mx_if_eq 51 dO_isReady_36 rfl (fun h36 => ?_) (fun h36 => ?_)
        · refine mx_iinc dO_isReady_51 rfl (mx_inc _) (Nat.le_of_ble_eq_true rfl) rfl ?_
          refine mx_goto 7 dO_isReady_54 rfl ?_
          refine mx_drop 5 ?_
          refine ih (fun j hj => ?_)
          by_cases e : j = i
          · subst e; simp [rdyB, h14, h31, h36]
          · exact hno j (by omega)
        · refine mx_aload_n dO_isReady_39 rfl ?_
          refine mx_get 3 1 dO_isReady_40 fgO_15 rfl rfl ?_
          refine mx_iload dO_isReady_43 rfl ?_
          refine mx_zald dO_isReady_45 rfl (bh_in (hsr _ (by omega))) ?_
          refine mx_if_ne 51 dO_isReady_46 rfl (fun h46 => ?_) (fun h46 => ?_)
          · refine mx_iinc dO_isReady_51 rfl (mx_inc _) (Nat.le_of_ble_eq_true rfl) rfl ?_
            refine mx_goto 7 dO_isReady_54 rfl ?_
            refine mx_drop 5 ?_
            refine ih (fun j hj => ?_)
            by_cases e : j = i
            · subst e; simp [rdyB, h14, h31, h36, h46]
            · exact hno j (by omega)
          · refine mx_iconst (0) dO_isReady_49 (by decide) ?_
            refine mx_iret dO_isReady_50 rfl rfl ?_
            rw [i01_f (show rdyK (I 10) (I 12) (I 13) (I 18) g = false from allB_no hi (by simp [rdyB, h31, h36, h46]))] at hQ
            exact hQ
  refine mx_aload_n dO_isReady_0 rfl ?_
  refine mx_iload_n dO_isReady_1 rfl ?_
  refine mx_V1 (R' := (mR 0 0)) [_] _ dO_isReady_2 rfl mT_G jP_firstPin_ok jP_firstPin_v lkO_36 ⟨rfl, rfl, Nat.le_of_ble_eq_true rfl, Nat.le_of_ble_eq_true rfl⟩ rfl rfl (Nat.le_of_ble_eq_true rfl) (Nat.le_of_ble_eq_true rfl) pic_P.1 rfl rfl (fun Qc qc => cP_firstPin qc) ?_
  rw [fp_nat g1]
  refine mx_istore dO_isReady_5 (Nat.le_of_ble_eq_true rfl) rfl ?_
  exact hloop 0 (Nat.zero_le _) (fun j hj => absurd hj (Nat.not_lt_zero j))
/-- how many of the gates 1 .. n are placed -/
def cntP (P : Nat → Int32) : Nat → Nat
  | 0 => 0
  | n + 1 => cntP P n + (if P (n + 1) = 0 then 0 else 1)
theorem cntP_le (P : Nat → Int32) : ∀ n, cntP P n ≤ n
  | 0 => Nat.le_refl _
  | n + 1 => by have := cntP_le P n; unfold cntP; split <;> omega
theorem cntP_lt {P : Nat → Int32} {g : Nat} (g1 : 1 ≤ g) (hg : P g = 0) : ∀ n, g ≤ n → cntP P n < n
  | 0, h => absurd h (by omega)
  | n + 1, h => by
    unfold cntP
    by_cases e : g = n + 1
    · subst e
      have := cntP_le P n
      rw [if_pos hg]
      omega
    · have := cntP_lt g1 hg n (by omega)
      split <;> omega
theorem cntP_other {P : Nat → Int32} {g : Nat} {x : Int32} : ∀ n, n < g → cntP (upd P g x) n = cntP P n
  | 0, _ => rfl
  | n + 1, h => by
    unfold cntP
    rw [cntP_other n (by omega), pk_un (by omega)]
theorem cntP_upd {P : Nat → Int32} {g : Nat} {x : Int32} (g1 : 1 ≤ g) (hg : P g = 0) (hx : ¬ x = 0) : ∀ n, g ≤ n → cntP (upd P g x) n = cntP P n + 1
  | 0, h => absurd h (by omega)
  | n + 1, h => by
    unfold cntP
    by_cases e : g = n + 1
    · subst e
      rw [cntP_other n (by omega), pk_us, if_neg hx, if_pos hg]
    · rw [cntP_upd g1 hg hx n (by omega), pk_un (by omega)]
      omega
theorem cntP_all {P : Nat → Int32} {n : Nat} (h : cntP P n = n) : ∀ g, 1 ≤ g → g ≤ n → ¬ P g = 0 := fun g g1 g2 hg => by
  have := cntP_lt g1 hg n g2
  omega
theorem cntP_0 {P : Nat → Int32} : ∀ n, (∀ g, 1 ≤ g → g ≤ n → P g = 0) → cntP P n = 0
  | 0, _ => rfl
  | n + 1, h => by
    unfold cntP
    rw [cntP_0 n (fun g h1 h2 => h g h1 (by omega)), if_pos (h (n + 1) (by omega) (Nat.le_refl _))]
/-- placed, place, filled -/
abbrev oS : Type := (Nat → Int32) × (Nat → Int32) × Nat
def oStep (rd : (Nat → Int32) → Nat → Bool) (g : Nat) (s : oS) : oS := if s.1 g = 0 then (if rd s.1 g = true then (upd s.1 g 1, upd s.2.1 s.2.2 (nI g), s.2.2 + 1) else s) else s
def oRound (rd : (Nat → Int32) → Nat → Bool) (c : Nat) (s : oS) : oS := lp (fun i => oStep rd (i + 1)) c s
def oRun (rd : (Nat → Int32) → Nat → Bool) (c : Nat) : Nat → oS → oS
  | 0, s => s
  | n + 1, s => if s.2.2 < c then oRun rd c n (oRound rd c s) else s
def oPic (I : Nat → Nat → Int32) (L : Nat → Nat → Int64) (c : Nat) (s : oS) : List va_E := pic (nI c) (nI s.2.2) (upI (upI I 17 s.2.1) 18 s.1) L
theorem oStep_inv {rd : (Nat → Int32) → Nat → Bool} {c g : Nat} {s : oS} (g1 : 1 ≤ g) (g2 : g ≤ c) (h : s.2.2 = cntP s.1 c) : (oStep rd g s).2.2 = cntP (oStep rd g s).1 c := by
  unfold oStep
  split
  · rename_i h1
    split
    · show s.2.2 + 1 = cntP (upd s.1 g 1) c
      rw [cntP_upd g1 h1 (by decide) c g2, h]
    · exact h
  · exact h
theorem oLp_inv {rd : (Nat → Int32) → Nat → Bool} {c : Nat} {s : oS} (h : s.2.2 = cntP s.1 c) : ∀ i, i ≤ c → (lp (fun i => oStep rd (i + 1)) i s).2.2 = cntP (lp (fun i => oStep rd (i + 1)) i s).1 c
  | 0, _ => h
  | i + 1, hi => oStep_inv (by omega) hi (oLp_inv h i (by omega))
theorem cO_placeReady {c : Nat} {I : Nat → Nat → Int32} {L : Nat → Nat → Int64} {Q : mx_O → List va_E → Prop} (hc : c ≤ 12) (hsr : ∀ w, w < 27 → I 12 w ≤ 12) {s : oS} (hs : s.2.2 = cntP s.1 c) (hQ : Q (.inl none) (oPic I L c (oRound (rdyK (I 10) (I 12) (I 13)) c s))) : mx_W mx_K mT mCl jO_placeReady (mR 3 70) 0 [.ref 4, .ref 1, .ref 2, .retAddr 0] [] (oPic I L c s) Q := by
  have hloop : ∀ i, i ≤ c → mx_W mx_K mT mCl jO_placeReady (mR 3 70) 2 [.ref 4, .ref 1, .ref 2, .int (nI (i + 1))] [] (oPic I L c (lp (fun i => oStep (rdyK (I 10) (I 12) (I 13)) (i + 1)) i s)) Q := by
    refine lp_down ?_ ?_
    · refine mx_iload_n dO_placeReady_2 rfl ?_
      refine mx_aload_n dO_placeReady_3 rfl ?_
      refine mx_get 1 0 dO_placeReady_4 fgO_23 rfl rfl ?_
      refine mx_icmp_gt 62 dO_placeReady_7 rfl (fun h7 => ?_) (fun h7 => ?_)
      rotate_left
      · exact absurd (nI_lt (Nat.lt_succ_self c) (by omega)) h7
      refine mx_vret dO_placeReady_62 rfl ?_
      exact hQ
    · intro i hi ih
      have hinv := oLp_inv (rd := (rdyK (I 10) (I 12) (I 13))) hs i (by omega)
      have ih : mx_W mx_K mT mCl jO_placeReady (mR 3 70) 2 [.ref 4, .ref 1, .ref 2, .int (nI (i + 1 + 1))] [] (oPic I L c (oStep (rdyK (I 10) (I 12) (I 13)) (i + 1) (lp (fun i => oStep (rdyK (I 10) (I 12) (I 13)) (i + 1)) i s))) Q := ih
      generalize lp (fun i => oStep (rdyK (I 10) (I 12) (I 13)) (i + 1)) i s = t at ih hinv ⊢
      refine mx_iload_n dO_placeReady_2 rfl ?_
      refine mx_aload_n dO_placeReady_3 rfl ?_
      refine mx_get 1 0 dO_placeReady_4 fgO_23 rfl rfl ?_
      refine mx_icmp_gt 62 dO_placeReady_7 rfl (fun h7 => ?_) (fun h7 => ?_)
      · exact absurd h7 (nI_nlt (by omega) (by omega))
      refine mx_aload_n dO_placeReady_10 rfl ?_
      refine mx_get 3 1 dO_placeReady_11 fgO_15 rfl rfl ?_
      refine mx_iload_n dO_placeReady_14 rfl ?_
      refine mx_zald dO_placeReady_15 rfl (vp_in_nI (by omega) (by decide)) ?_
      rw [nI_clamp (by omega)]
      refine mx_if_ne 56 dO_placeReady_16 rfl (fun h16 => ?_) (fun h16 => ?_)
      · refine mx_iinc dO_placeReady_56 rfl (mx_inc _) (Nat.le_of_ble_eq_true rfl) rfl ?_
        refine mx_goto 2 dO_placeReady_59 rfl ?_
        have h16 : ¬ t.1 (i + 1) = 0 := h16
        have e1 : oStep (rdyK (I 10) (I 12) (I 13)) (i + 1) t = t := by unfold oStep; rw [if_neg h16]
        rw [e1] at ih
        exact ih
      · refine mx_aload_n dO_placeReady_19 rfl ?_
        refine mx_aload_n dO_placeReady_20 rfl ?_
        refine mx_aload_n dO_placeReady_21 rfl ?_
        refine mx_iload_n dO_placeReady_22 rfl ?_
        refine mx_V1 (R' := (mR 2 45)) [_, _, _] _ dO_placeReady_23 rfl mT_G jO_isReady_ok jO_isReady_v lkO_32 ⟨rfl, rfl, Nat.le_of_ble_eq_true rfl, Nat.le_of_ble_eq_true rfl⟩ rfl rfl (Nat.le_of_ble_eq_true rfl) (Nat.le_of_ble_eq_true rfl) rfl rfl rfl (fun Qc qc => cO_isReady (I := upI (upI I 17 t.2.1) 18 t.1) hc hsr (by omega) (by omega) qc) ?_
        refine mx_if_eq 56 dO_placeReady_26 rfl (fun h26 => ?_) (fun h26 => ?_)
        · refine mx_iinc dO_placeReady_56 rfl (mx_inc _) (Nat.le_of_ble_eq_true rfl) rfl ?_
          refine mx_goto 2 dO_placeReady_59 rfl ?_
          have e1 : oStep (rdyK (I 10) (I 12) (I 13)) (i + 1) t = t := by
            unfold oStep
            by_cases q1 : t.1 (i + 1) = 0
            · rw [if_pos q1]
              cases q2 : rdyK (I 10) (I 12) (I 13) t.1 (i + 1) with
              | true => exact absurd ((i01_t q2).symm.trans h26) (by decide)
              | false => rfl
            · rw [if_neg q1]
          rw [e1] at ih
          exact ih
        · refine mx_aload_n dO_placeReady_29 rfl ?_
          refine mx_get 3 1 dO_placeReady_30 fgO_15 rfl rfl ?_
          refine mx_iload_n dO_placeReady_33 rfl ?_
          refine mx_iconst (1) dO_placeReady_34 (by decide) ?_
          refine mx_zast dO_placeReady_35 rfl (vp_in_nI (by omega) (by decide)) ?_
          rw [nI_clamp (by omega)]
          have h16 : t.1 (i + 1) = 0 := h16
          have hlt : t.2.2 < 12 := by rw [hinv]; exact Nat.lt_of_lt_of_le (cntP_lt (by omega) h16 c (by omega)) hc
          refine mx_eqs (hp' := pic (nI c) (nI t.2.2) (upI (upI I 17 t.2.1) 18 (upd t.1 (i + 1) 1)) L) rfl rfl rfl (by
            rw [← upI_upI (upI I 17 t.2.1) 18 t.1]
            rfl) ?_
          refine mx_aload_n dO_placeReady_36 rfl ?_
          refine mx_get 3 0 dO_placeReady_37 fgO_9 rfl rfl ?_
          refine mx_aload_n dO_placeReady_40 rfl ?_
          refine mx_get 3 2 dO_placeReady_41 fgO_19 rfl rfl ?_
          refine mx_iload_n dO_placeReady_44 rfl ?_
          refine mx_iast dO_placeReady_45 rfl (vp_in_nI hlt (by decide)) ?_
          rw [nI_clamp (by omega)]
          refine mx_eqs (hp' := pic (nI c) (nI t.2.2) (upI (upI I 17 (upd t.2.1 t.2.2 (nI (i + 1)))) 18 (upd t.1 (i + 1) 1)) L) rfl rfl rfl (by
            rw [← upI_upI I 17 t.2.1, upI_comm _ _ _ (by decide : (17 : Nat) ≠ 18)]
            rfl) ?_
          refine mx_aload_n dO_placeReady_46 rfl ?_
          refine mx_dup dO_placeReady_47 rfl ?_
          refine mx_get 3 2 dO_placeReady_48 fgO_19 rfl rfl ?_
          refine mx_iconst (1) dO_placeReady_51 (by decide) ?_
          refine mx_iadd dO_placeReady_52 ?_
          refine mx_put 3 2 (.int) dO_placeReady_53 fpO_19 rfl (Nat.le_of_ble_eq_true rfl) rfl rfl ?_
          refine mx_iinc dO_placeReady_56 rfl (mx_inc _) (Nat.le_of_ble_eq_true rfl) rfl ?_
          refine mx_goto 2 dO_placeReady_59 rfl ?_
          have e1 : oStep (rdyK (I 10) (I 12) (I 13)) (i + 1) t = (upd t.1 (i + 1) 1, upd t.2.1 t.2.2 (nI (i + 1)), t.2.2 + 1) := by
            unfold oStep
            rw [if_pos h16]
            cases q2 : rdyK (I 10) (I 12) (I 13) t.1 (i + 1) with
            | true => rfl
            | false => exact absurd (i01_f q2) h26
          rw [e1] at ih
          refine mx_eqs rfl rfl rfl ?_ ih
          show (pic (nI c) (nI t.2.2) _ L).set 4 (.inr (3, [.ref 17, .ref 18, .int (nI t.2.2 + 1)])) = _
          rw [pic_fil, nI_1]
          rfl
  refine mx_iconst (1) dO_placeReady_0 (by decide) ?_
  refine mx_istore_n dO_placeReady_1 (Nat.le_of_ble_eq_true rfl) rfl ?_
  exact hloop 0 (Nat.zero_le _)
