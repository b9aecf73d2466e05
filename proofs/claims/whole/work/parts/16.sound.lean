/-! Order.arrange; A.isSound. -/
def zer (c : Nat) (P : Nat → Int32) : Nat → Int32 := lp (fun j P => upd P (j + 1) 0) c P
theorem zer_0 {P : Nat → Int32} : ∀ c g, 1 ≤ g → g ≤ c → lp (fun j P => upd P (j + 1) (0 : Int32)) c P g = 0
  | 0, g, h1, h2 => absurd h1 (by omega)
  | c + 1, g, h1, h2 => by
    show upd (lp (fun j P => upd P (j + 1) (0 : Int32)) c P) (c + 1) 0 g = 0
    by_cases e : g = c + 1
    · subst e; exact pk_us
    · rw [pk_un e]; exact zer_0 c g h1 (by omega)
theorem oRound_inv {rd : (Nat → Int32) → Nat → Bool} {c : Nat} {s : oS} (h : s.2.2 = cntP s.1 c) : (oRound rd c s).2.2 = cntP (oRound rd c s).1 c := oLp_inv h c (Nat.le_refl _)
/-- the order of the gates, as arrange leaves it -/
def oFin (c : Nat) (I : Nat → Nat → Int32) : oS := oRun (rdyK (I 10) (I 12) (I 13)) c c (zer c (I 18), I 17, 0)
theorem oRun_inv {rd : (Nat → Int32) → Nat → Bool} {c : Nat} : ∀ (n : Nat) (s : oS), s.2.2 = cntP s.1 c → (oRun rd c n s).2.2 = cntP (oRun rd c n s).1 c
  | 0, s, h => h
  | n + 1, s, h => by
    unfold oRun
    split
    · exact oRun_inv n _ (oRound_inv h)
    · exact h
theorem oFin_inv (c : Nat) (I : Nat → Nat → Int32) : (oFin c I).2.2 = cntP (oFin c I).1 c := oRun_inv c _ (by
  show 0 = cntP (zer c (I 18)) c
  exact (cntP_0 c (fun g h1 h2 => zer_0 c g h1 h2)).symm)
theorem cO_arrange {c : Nat} {fil : Int32} {I : Nat → Nat → Int32} {L : Nat → Nat → Int64} {Q : mx_O → List va_E → Prop} (hc : c ≤ 12) (hsr : ∀ w, w < 27 → I 12 w ≤ 12) (hQ : Q (.inl (some (.int (i01 (decide ((oFin c I).2.2 = c)))))) (oPic I L c (oFin c I))) : mx_W mx_K mT mCl jO_arrange (mR 4 93) 0 [.ref 4, .ref 1, .ref 2, .retAddr 0] [] (pic (nI c) fil I L) Q := by
  have hexit : ∀ (s : oS) (x : Int32), s.2.2 = cntP s.1 c → Q (.inl (some (.int (i01 (decide (s.2.2 = c)))))) (oPic I L c s) → mx_W mx_K mT mCl jO_arrange (mR 4 93) 61 [.ref 4, .ref 1, .ref 2, .int x] [] (oPic I L c s) Q := by
    intro s x hs hq
    have hle := cntP_le s.1 c
    refine mx_aload_n dO_arrange_61 rfl ?_
    refine mx_get 3 2 dO_arrange_62 fgO_19 rfl rfl ?_
    refine mx_aload_n dO_arrange_65 rfl ?_
    refine mx_get 1 0 dO_arrange_66 fgO_23 rfl rfl ?_
    refine mx_icmp_ne 76 dO_arrange_69 rfl (fun h69 => ?_) (fun h69 => ?_)
    · refine mx_iconst (0) dO_arrange_76 (by decide) ?_
      refine mx_iret dO_arrange_77 rfl rfl ?_
      rw [i01_f (decide_eq_false (fun e => h69 (by rw [e])))] at hq
      exact hq
    · refine mx_iconst (1) dO_arrange_72 (by decide) ?_
      refine mx_goto 77 dO_arrange_73 rfl ?_
      refine mx_iret dO_arrange_77 rfl rfl ?_
      rw [i01_t (decide_eq_true ((nI_eq (by omega) (by omega)).mp h69))] at hq
      exact hq
  have hloop2 : ∀ r, r ≤ c → ∀ s : oS, s.2.2 = cntP s.1 c → Q (.inl (some (.int (i01 (decide ((oRun (rdyK (I 10) (I 12) (I 13)) c (c - r) s).2.2 = c)))))) (oPic I L c (oRun (rdyK (I 10) (I 12) (I 13)) c (c - r) s)) → mx_W mx_K mT mCl jO_arrange (mR 4 93) 30 [.ref 4, .ref 1, .ref 2, .int (nI r)] [] (oPic I L c s) Q := by
    refine lp_down ?_ ?_
    · intro s hs hq
      rw [Nat.sub_self] at hq
      refine mx_iload_n dO_arrange_30 rfl ?_
      refine mx_aload_n dO_arrange_31 rfl ?_
      refine mx_get 1 0 dO_arrange_32 fgO_23 rfl rfl ?_
      refine mx_icmp_ge 61 dO_arrange_35 rfl (fun h35 => ?_) (fun h35 => ?_)
      rotate_left
      · exact absurd (nI_le (Nat.le_refl c) (by omega)) h35
      exact hexit s _ hs hq
    · intro r hr ih s hs hq
      have hle := cntP_le s.1 c
      rw [show c - r = (c - (r + 1)) + 1 by omega] at hq
      unfold oRun at hq
      refine mx_iload_n dO_arrange_30 rfl ?_
      refine mx_aload_n dO_arrange_31 rfl ?_
      refine mx_get 1 0 dO_arrange_32 fgO_23 rfl rfl ?_
      refine mx_icmp_ge 61 dO_arrange_35 rfl (fun h35 => ?_) (fun h35 => ?_)
      · exact absurd h35 (nI_ge hr (by omega))
      refine mx_aload_n dO_arrange_38 rfl ?_
      refine mx_get 3 2 dO_arrange_39 fgO_19 rfl rfl ?_
      refine mx_aload_n dO_arrange_42 rfl ?_
      refine mx_get 1 0 dO_arrange_43 fgO_23 rfl rfl ?_
      refine mx_icmp_ge 61 dO_arrange_46 rfl (fun h46 => ?_) (fun h46 => ?_)
      · rw [if_neg (fun e => (nI_ge e (by omega)) h46)] at hq
        exact hexit s _ hs hq
      · refine mx_aload_n dO_arrange_49 rfl ?_
        refine mx_aload_n dO_arrange_50 rfl ?_
        refine mx_aload_n dO_arrange_51 rfl ?_
        refine mx_V1 (R' := (mR 3 70)) [_, _] _ dO_arrange_52 rfl mT_G jO_placeReady_ok jO_placeReady_v lkO_28 ⟨rfl, rfl, Nat.le_of_ble_eq_true rfl, Nat.le_of_ble_eq_true rfl⟩ rfl rfl (Nat.le_of_ble_eq_true rfl) (Nat.le_of_ble_eq_true rfl) rfl rfl rfl (fun Qc qc => cO_placeReady hc hsr hs qc) ?_
        rw [if_pos (by
          have : ¬ c ≤ s.2.2 := fun e => h46 (nI_le e (by omega))
          omega)] at hq
        refine mx_iinc dO_arrange_55 rfl (mx_inc _) (Nat.le_of_ble_eq_true rfl) rfl ?_
        refine mx_goto 30 dO_arrange_58 rfl ?_
        exact ih _ (oRound_inv hs) hq
  have hloop1 : ∀ i, i ≤ c → mx_W mx_K mT mCl jO_arrange (mR 4 93) 7 [.ref 4, .ref 1, .ref 2, .int (nI (i + 1))] [] (pic (nI c) 0 (upI I 18 (lp (fun j P => upd P (j + 1) 0) i (I 18))) L) Q := by
    refine lp_down ?_ ?_
    · refine mx_iload_n dO_arrange_7 rfl ?_
      refine mx_aload_n dO_arrange_8 rfl ?_
      refine mx_get 1 0 dO_arrange_9 fgO_23 rfl rfl ?_
      refine mx_icmp_gt 28 dO_arrange_12 rfl (fun h12 => ?_) (fun h12 => ?_)
      rotate_left
      · exact absurd (nI_lt (Nat.lt_succ_self c) (by omega)) h12
      refine mx_iconst (0) dO_arrange_28 (by decide) ?_
      refine mx_istore_n dO_arrange_29 (Nat.le_of_ble_eq_true rfl) rfl ?_
      refine mx_eqs rfl rfl rfl ?_ (hloop2 0 (Nat.zero_le _) (zer c (I 18), I 17, 0) (cntP_0 c (fun g h1 h2 => zer_0 c g h1 h2)).symm hQ)
      show _ = pic (nI c) (nI 0) (upI (upI I 17 (I 17)) 18 (zer c (I 18))) L
      rw [upI_own]
      rfl
    · intro i hi ih
      refine mx_iload_n dO_arrange_7 rfl ?_
      refine mx_aload_n dO_arrange_8 rfl ?_
      refine mx_get 1 0 dO_arrange_9 fgO_23 rfl rfl ?_
      refine mx_icmp_gt 28 dO_arrange_12 rfl (fun h12 => ?_) (fun h12 => ?_)
      · exact absurd h12 (nI_nlt (by omega) (by omega))
      refine mx_aload_n dO_arrange_15 rfl ?_
      refine mx_get 3 1 dO_arrange_16 fgO_15 rfl rfl ?_
      refine mx_iload_n dO_arrange_19 rfl ?_
      refine mx_iconst (0) dO_arrange_20 (by decide) ?_
      refine mx_zast dO_arrange_21 rfl (vp_in_nI (by omega) (by decide)) ?_
      rw [nI_clamp (by omega)]
      refine mx_iinc dO_arrange_22 rfl (mx_inc _) (Nat.le_of_ble_eq_true rfl) rfl ?_
      refine mx_goto 7 dO_arrange_25 rfl ?_
      refine mx_eqs rfl rfl rfl ?_ ih
      show (pic (nI c) 0 (upI I 18 (lp (fun j P => upd P (j + 1) 0) i (I 18))) L).set 18 (eZ 13 (upd (lp (fun j P => upd P (j + 1) 0) i (I 18)) (i + 1) 0)) = _
      rw [pic_18, upI_upI]
      rfl
  refine mx_aload_n dO_arrange_0 rfl ?_
  refine mx_iconst (0) dO_arrange_1 (by decide) ?_
  refine mx_put 3 2 (.int) dO_arrange_2 fpO_19 rfl (Nat.le_of_ble_eq_true rfl) rfl rfl ?_
  refine mx_iconst (1) dO_arrange_5 (by decide) ?_
  refine mx_istore_n dO_arrange_6 (Nat.le_of_ble_eq_true rfl) rfl ?_
  refine mx_eqs rfl rfl rfl ?_ (hloop1 0 (Nat.zero_le _))
  show (pic (nI c) fil I L).set 4 (.inr (3, [.ref 17, .ref 18, .int 0])) = pic (nI c) 0 (upI I 18 (I 18)) L
  rw [pic_fil, upI_own]
/-- the circuit is sound -/
def sndB (c : Nat) (I : Nat → Nat → Int32) : Bool := isCompl c (I 10) (I 12) && decide ((oFin c I).2.2 = c)
def sndH (c : Nat) (fil : Int32) (I : Nat → Nat → Int32) (L : Nat → Nat → Int64) : List va_E := if isCompl c (I 10) (I 12) = true then oPic I L c (oFin c I) else pic (nI c) fil I L
theorem cA_isSound {c : Nat} {fil : Int32} {I : Nat → Nat → Int32} {L : Nat → Nat → Int64} {Q : mx_O → List va_E → Prop} (hc : c ≤ 12) (hsr : ∀ w, w < 27 → I 12 w ≤ 12) (hQ : Q (.inl (some (.int (i01 (sndB c I))))) (sndH c fil I L)) : mx_W mx_K mT mCl jA_isSound (mR 5 116) 0 [.ref 0] [] (pic (nI c) fil I L) Q := by
  unfold sndB sndH at hQ
  have ht : ¬ i01 (isCompl c (I 10) (I 12)) = 0 → isCompl c (I 10) (I 12) = true := fun h => by
    cases e : isCompl c (I 10) (I 12) with
    | true => rfl
    | false => exact absurd (i01_f e) h
  have hf : i01 (isCompl c (I 10) (I 12)) = 0 → isCompl c (I 10) (I 12) = false := fun h => by
    cases e : isCompl c (I 10) (I 12) with
    | false => rfl
    | true => rw [i01_t e] at h; exact absurd h (by decide)
  refine mx_aload_n dA_isSound_0 rfl ?_
  refine mx_get 0 0 dA_isSound_1 fgA_12 rfl rfl ?_
  refine mx_V1 (R' := (mR 3 64)) [] _ dA_isSound_4 rfl mT_G jP_isComplete_ok jP_isComplete_v lkA_181 ⟨rfl, rfl, Nat.le_of_ble_eq_true rfl, Nat.le_of_ble_eq_true rfl⟩ rfl rfl (Nat.le_of_ble_eq_true rfl) (Nat.le_of_ble_eq_true rfl) pic_P.1 rfl rfl (fun Qc qc => cP_isComplete pic_P hc qc) ?_
  refine mx_if_eq 32 dA_isSound_7 rfl (fun h7 => ?_) (fun h7 => ?_)
  · refine mx_iconst (0) dA_isSound_32 (by decide) ?_
    refine mx_iret dA_isSound_33 rfl rfl ?_
    rw [hf h7] at hQ
    exact hQ
  · refine mx_aload_n dA_isSound_10 rfl ?_
    refine mx_get 0 3 dA_isSound_11 fgA_29 rfl rfl ?_
    refine mx_aload_n dA_isSound_14 rfl ?_
    refine mx_get 0 0 dA_isSound_15 fgA_12 rfl rfl ?_
    refine mx_aload_n dA_isSound_18 rfl ?_
    refine mx_get 0 1 dA_isSound_19 fgA_19 rfl rfl ?_
    refine mx_V1 (R' := (mR 4 93)) [_, _] _ dA_isSound_22 rfl mT_G jO_arrange_ok jO_arrange_v lkA_184 ⟨rfl, rfl, Nat.le_of_ble_eq_true rfl, Nat.le_of_ble_eq_true rfl⟩ rfl rfl (Nat.le_of_ble_eq_true rfl) (Nat.le_of_ble_eq_true rfl) rfl rfl rfl (fun Qc qc => cO_arrange hc hsr qc) ?_
    refine mx_if_eq 32 dA_isSound_25 rfl (fun h25 => ?_) (fun h25 => ?_)
    · refine mx_iconst (0) dA_isSound_32 (by decide) ?_
      refine mx_iret dA_isSound_33 rfl rfl ?_
      rw [ht h7] at hQ
      cases e : decide ((oFin c I).2.2 = c) with
      | true => rw [i01_t e] at h25; exact absurd h25 (by decide)
      | false => rw [e] at hQ; exact hQ
    · refine mx_iconst (1) dA_isSound_28 (by decide) ?_
      refine mx_goto 33 dA_isSound_29 rfl ?_
      refine mx_iret dA_isSound_33 rfl rfl ?_
      rw [ht h7] at hQ
      cases e : decide ((oFin c I).2.2 = c) with
      | false => exact absurd (i01_f e) h25
      | true => rw [e] at hQ; exact hQ
