/-! Limits. -/
def lLim (I : Nat → Nat → Int32) (a b : Nat) (x : Int32) : Nat → Nat → Int32 := upI I (52 + a) (upd (I (52 + a)) b (if x < I (52 + a) b then x else I (52 + a) b))
theorem lLim_low {I : Nat → Nat → Int32} {a b k : Nat} {x : Int32} (h : k < 52) : lLim I a b x k = I k := upI_ne _ _ (by omega)
theorem cL_limit {cnt fil : Int32} {I : Nat → Nat → Int32} {L : Nat → Nat → Int64} {Q : mx_O → List va_E → Prop} {a b : Nat} {x : Int32} (ha : a < 13) (hb : b < 13) (hQ : Q (.inl none) (pic cnt fil (lLim I a b x) L)) : mx_W mx_K mT mCl jL_limit (mR 1 24) 0 [.ref 6, .int (nI a), .int (nI b), .int x] [] (pic cnt fil I L) Q := by
  refine mx_aload_n dL_limit_0 rfl ?_
  refine mx_get 5 1 dL_limit_1 fgL_17 rfl rfl ?_
  refine mx_iload_n dL_limit_4 rfl ?_
  refine mx_aald dL_limit_5 rfl (vp_in_nI (by omega) (by decide)) (eg_at ha) ?_
  refine mx_iload_n dL_limit_6 rfl ?_
  refine mx_aload_n dL_limit_7 rfl ?_
  refine mx_get 5 1 dL_limit_8 fgL_17 rfl rfl ?_
  refine mx_iload_n dL_limit_11 rfl ?_
  refine mx_aald dL_limit_12 rfl (vp_in_nI (by omega) (by decide)) (eg_at ha) ?_
  refine mx_iload_n dL_limit_13 rfl ?_
  refine mx_iald dL_limit_14 (pic_row (by omega) (by omega)) (vp_in_nI (by omega) (by decide)) ?_
  rw [nI_clamp (by omega)]
  refine mx_iload_n dL_limit_15 rfl ?_
  refine mx_min dL_limit_16 (mT_3 (i := 53) rfl rfl) (mT_3 (i := 54) rfl rfl) (mT_1 (i := 17) rfl rfl) (mT_3 (i := 55) rfl rfl) (Nat.le_of_ble_eq_true rfl) (Nat.le_of_ble_eq_true rfl) ?_
  refine mx_iast dL_limit_19 (pic_row (by omega) (by omega)) (vp_in_nI (by omega) (by decide)) ?_
  refine mx_vret dL_limit_20 rfl ?_
  rw [nI_clamp (by omega), pic_srow (by omega) (by omega)]
  exact hQ
theorem cL_limitWire {cnt fil : Int32} {I : Nat → Nat → Int32} {L : Nat → Nat → Int64} {Q : mx_O → List va_E → Prop} {a b : Nat} {x : Int32} (ha : a < 13) (hb : b < 13) (hQ : Q (.inl none) (pic cnt fil (lLim (lLim I a b x) b a (20 - x)) L)) : mx_W mx_K mT mCl jL_limitWire (mR 2 47) 0 [.ref 6, .int (nI a), .int (nI b), .int x] [] (pic cnt fil I L) Q := by
  refine mx_aload_n dL_limitWire_0 rfl ?_
  refine mx_iload_n dL_limitWire_1 rfl ?_
  refine mx_iload_n dL_limitWire_2 rfl ?_
  refine mx_iload_n dL_limitWire_3 rfl ?_
  refine mx_V1 (R' := (mR 1 24)) [_, _, _] _ dL_limitWire_4 rfl mT_G jL_limit_ok jL_limit_v lkL_56 ⟨rfl, rfl, Nat.le_of_ble_eq_true rfl, Nat.le_of_ble_eq_true rfl⟩ rfl rfl (Nat.le_of_ble_eq_true rfl) (Nat.le_of_ble_eq_true rfl) rfl rfl rfl (fun Qc qc => cL_limit ha hb qc) ?_
  refine mx_aload_n dL_limitWire_7 rfl ?_
  refine mx_iload_n dL_limitWire_8 rfl ?_
  refine mx_iload_n dL_limitWire_9 rfl ?_
  refine mx_bipush (20) dL_limitWire_10 (by decide) ?_
  refine mx_iload_n dL_limitWire_12 rfl ?_
  refine mx_isub dL_limitWire_13 ?_
  refine mx_V1 (R' := (mR 1 24)) [_, _, _] _ dL_limitWire_14 rfl mT_G jL_limit_ok jL_limit_v lkL_56 ⟨rfl, rfl, Nat.le_of_ble_eq_true rfl, Nat.le_of_ble_eq_true rfl⟩ rfl rfl (Nat.le_of_ble_eq_true rfl) (Nat.le_of_ble_eq_true rfl) rfl rfl rfl (fun Qc qc => cL_limit hb ha qc) ?_
  refine mx_vret dL_limitWire_17 rfl ?_
  exact hQ
def lP1 (I : Nat → Nat → Int32) (u v : Nat) (k : Int32) : Nat → Nat → Int32 := if I (39 + u) v ≤ k then I else lLim I u v (I (26 + u) v - 1)
def lP2 (c : Nat) (k : Int32) (u : Nat) (I : Nat → Nat → Int32) : Nat → Nat → Int32 := lp (fun i I => lP1 I u (i + 1) k) c I
theorem cL_limitPaths {c : Nat} {cnt fil : Int32} {I : Nat → Nat → Int32} {L : Nat → Nat → Int64} {Q : mx_O → List va_E → Prop} (hc : c ≤ 12) {u : Nat} {k : Int32} (hu : u < 13) (hQ : Q (.inl none) (pic cnt fil (lP2 c k u I) L)) : mx_W mx_K mT mCl jL_limitPaths (mR 2 47) 0 [.ref 6, .int (nI c), .ref 5, .int (nI u), .int k, .retAddr 0] [] (pic cnt fil I L) Q := by
  have hloop : ∀ i, i ≤ c → mx_W mx_K mT mCl jL_limitPaths (mR 2 47) 3 [.ref 6, .int (nI c), .ref 5, .int (nI u), .int k, .int (nI (i + 1))] [] (pic cnt fil (lp (fun i I => lP1 I u (i + 1) k) i I) L) Q := by
    refine lp_down ?_ ?_
    · refine mx_iload dL_limitPaths_3 rfl ?_
      refine mx_iload_n dL_limitPaths_5 rfl ?_
      refine mx_icmp_gt 47 dL_limitPaths_6 rfl (fun h6 => ?_) (fun h6 => ?_)
      rotate_left
      · exact absurd (nI_lt (Nat.lt_succ_self c) (by omega)) h6
      refine mx_vret dL_limitPaths_47 rfl ?_
      exact hQ
    · intro i hi ih
      have ih : mx_W mx_K mT mCl jL_limitPaths (mR 2 47) 3 [.ref 6, .int (nI c), .ref 5, .int (nI u), .int k, .int (nI (i + 1 + 1))] [] (pic cnt fil (lP1 (lp (fun i I => lP1 I u (i + 1) k) i I) u (i + 1) k) L) Q := ih
      generalize lp (fun i I => lP1 I u (i + 1) k) i I = G at ih ⊢
      unfold lP1 at ih
      refine mx_iload dL_limitPaths_3 rfl ?_
      refine mx_iload_n dL_limitPaths_5 rfl ?_
      refine mx_icmp_gt 47 dL_limitPaths_6 rfl (fun h6 => ?_) (fun h6 => ?_)
      · exact absurd h6 (nI_nlt (by omega) (by omega))
      refine mx_aload_n dL_limitPaths_9 rfl ?_
      refine mx_get 4 1 dL_limitPaths_10 fgL_59 rfl rfl ?_
      refine mx_iload_n dL_limitPaths_13 rfl ?_
      refine mx_aald dL_limitPaths_14 rfl (vp_in_nI (by omega) (by decide)) (eg_at hu) ?_
      refine mx_iload dL_limitPaths_15 rfl ?_
      refine mx_iald dL_limitPaths_17 (pic_row (by omega) (by omega)) (vp_in_nI (by omega) (by decide)) ?_
      rw [nI_clamp (by omega)]
      refine mx_iload dL_limitPaths_18 rfl ?_
      refine mx_icmp_le 41 dL_limitPaths_20 rfl (fun h20 => ?_) (fun h20 => ?_)
      · first | rw [if_pos h20] at ih | rw [if_neg h20] at ih
        refine mx_iinc dL_limitPaths_41 rfl (mx_inc _) (Nat.le_of_ble_eq_true rfl) rfl ?_
        refine mx_goto 3 dL_limitPaths_44 rfl ?_
        exact ih
      · refine mx_aload_n dL_limitPaths_23 rfl ?_
        refine mx_iload_n dL_limitPaths_24 rfl ?_
        refine mx_iload dL_limitPaths_25 rfl ?_
        refine mx_aload_n dL_limitPaths_27 rfl ?_
        refine mx_get 4 0 dL_limitPaths_28 fgL_64 rfl rfl ?_
        refine mx_iload_n dL_limitPaths_31 rfl ?_
        refine mx_aald dL_limitPaths_32 rfl (vp_in_nI (by omega) (by decide)) (eg_at hu) ?_
        refine mx_iload dL_limitPaths_33 rfl ?_
        refine mx_iald dL_limitPaths_35 (pic_row (by omega) (by omega)) (vp_in_nI (by omega) (by decide)) ?_
        rw [nI_clamp (by omega)]
        refine mx_iconst (1) dL_limitPaths_36 (by decide) ?_
        refine mx_isub dL_limitPaths_37 ?_
        refine mx_V1 (R' := (mR 1 24)) [_, _, _] _ dL_limitPaths_38 rfl mT_G jL_limit_ok jL_limit_v lkL_56 ⟨rfl, rfl, Nat.le_of_ble_eq_true rfl, Nat.le_of_ble_eq_true rfl⟩ rfl rfl (Nat.le_of_ble_eq_true rfl) (Nat.le_of_ble_eq_true rfl) rfl rfl rfl (fun Qc qc => cL_limit hu (by omega) qc) ?_
        first | rw [if_pos h20] at ih | rw [if_neg h20] at ih
        refine mx_iinc dL_limitPaths_41 rfl (mx_inc _) (Nat.le_of_ble_eq_true rfl) rfl ?_
        refine mx_goto 3 dL_limitPaths_44 rfl ?_
        exact ih
  refine mx_iconst (1) dL_limitPaths_0 (by decide) ?_
  refine mx_istore dL_limitPaths_1 (Nat.le_of_ble_eq_true rfl) rfl ?_
  exact hloop 0 (Nat.zero_le _)
def lS1 (c : Nat) (I : Nat → Nat → Int32) : Nat → Nat → Int32 := lp (fun a G => lp (fun b G => upI G (52 + a) (upd (G (52 + a)) b 1000)) (c + 1) G) (c + 1) I
def lWire (w : Nat) (I : Nat → Nat → Int32) : Nat → Nat → Int32 := if I 12 w = 0 then I else lLim (lLim I (bh (I 12) w).toNatClampNeg (gbf w) (I 13 w)) (gbf w) (bh (I 12) w).toNatClampNeg (20 - I 13 w)
def lS2 (c : Nat) (I : Nat → Nat → Int32) : Nat → Nat → Int32 := lp lWire 27 (lS1 c I)
/-- what Limits.set leaves -/
def lSet (c : Nat) (k : Int32) (I : Nat → Nat → Int32) : Nat → Nat → Int32 := lp (fun u G => lP2 c k (u + 1) G) c (lS2 c I)
theorem lP1_low {I : Nat → Nat → Int32} {u v j : Nat} {k : Int32} (h : j < 52) : lP1 I u v k j = I j := by
  unfold lP1; split
  · rfl
  · exact lLim_low h
theorem lP2_low {I : Nat → Nat → Int32} {c u j : Nat} {k : Int32} (h : j < 52) : lP2 c k u I j = I j := by
  unfold lP2
  exact lp_keep (P := fun (G : Nat → Nat → Int32) => G j = I j) rfl c (fun i t _ ht => by rw [lP1_low h]; exact ht)
theorem lWire_low {I : Nat → Nat → Int32} {w j : Nat} (h : j < 52) : lWire w I j = I j := by
  unfold lWire; split
  · rfl
  · rw [lLim_low h, lLim_low h]
theorem lS1_low {I : Nat → Nat → Int32} {c j : Nat} (h : j < 52) : lS1 c I j = I j := by
  unfold lS1
  exact lp_keep (P := fun (G : Nat → Nat → Int32) => G j = I j) rfl (c + 1) (fun a t _ ht => lp_keep (P := fun (G : Nat → Nat → Int32) => G j = I j) ht (c + 1) (fun b t _ ht => by rw [upI_ne _ _ (by omega)]; exact ht))
theorem lS2_low {I : Nat → Nat → Int32} {c j : Nat} (h : j < 52) : lS2 c I j = I j := by
  unfold lS2
  exact lp_keep (P := fun (G : Nat → Nat → Int32) => G j = I j) (f := lWire) (s := lS1 c I) (lS1_low h) 27 (fun i t _ ht => by rw [lWire_low h]; exact ht)
theorem lSet_low {I : Nat → Nat → Int32} {c j : Nat} {k : Int32} (h : j < 52) : lSet c k I j = I j := by
  unfold lSet
  exact lp_keep (P := fun (G : Nat → Nat → Int32) => G j = I j) (lS2_low h) c (fun i t _ ht => by rw [lP2_low h]; exact ht)
theorem cL_set {c : Nat} {fil : Int32} {I : Nat → Nat → Int32} {L : Nat → Nat → Int64} {Q : mx_O → List va_E → Prop} (hc : c ≤ 12) (hsr : ∀ w, w < 27 → I 12 w ≤ 12) {k : Int32} (hQ : Q (.inl none) (pic (nI c) fil (lSet c k I) L)) : mx_W mx_K mT mCl jL_set (mR 3 72) 0 [.ref 6, .ref 1, .ref 2, .ref 5, .int k, .retAddr 0, .retAddr 0] [] (pic (nI c) fil I L) Q := by
  have l3 : ∀ i, i ≤ c → mx_W mx_K mT mCl jL_set (mR 3 72) 100 [.ref 6, .ref 1, .ref 2, .ref 5, .int k, .int (nI (i + 1)), .retAddr 0] [] (pic (nI c) fil (lp (fun u G => lP2 c k (u + 1) G) i (lS2 c I)) L) Q := by
    refine lp_down ?_ ?_
    · refine mx_iload dL_set_100 rfl ?_
      refine mx_aload_n dL_set_102 rfl ?_
      refine mx_get 1 0 dL_set_103 fgL_20 rfl rfl ?_
      refine mx_icmp_gt 128 dL_set_106 rfl (fun h106 => ?_) (fun h106 => ?_)
      rotate_left
      · exact absurd (nI_lt (Nat.lt_succ_self c) (by omega)) h106
      refine mx_vret dL_set_128 rfl ?_
      exact hQ
    · intro i hi ih
      refine mx_iload dL_set_100 rfl ?_
      refine mx_aload_n dL_set_102 rfl ?_
      refine mx_get 1 0 dL_set_103 fgL_20 rfl rfl ?_
      refine mx_icmp_gt 128 dL_set_106 rfl (fun h106 => ?_) (fun h106 => ?_)
      · exact absurd h106 (nI_nlt (by omega) (by omega))
      refine mx_aload_n dL_set_109 rfl ?_
      refine mx_aload_n dL_set_110 rfl ?_
      refine mx_get 1 0 dL_set_111 fgL_20 rfl rfl ?_
      refine mx_aload_n dL_set_114 rfl ?_
      refine mx_iload dL_set_115 rfl ?_
      refine mx_iload dL_set_117 rfl ?_
      refine mx_V1 (R' := (mR 2 47)) [_, _, _, _] _ dL_set_119 rfl mT_G jL_limitPaths_ok jL_limitPaths_v lkL_45 ⟨rfl, rfl, Nat.le_of_ble_eq_true rfl, Nat.le_of_ble_eq_true rfl⟩ rfl rfl (Nat.le_of_ble_eq_true rfl) (Nat.le_of_ble_eq_true rfl) rfl rfl rfl (fun Qc qc => cL_limitPaths hc (by omega) qc) ?_
      refine mx_iinc dL_set_122 rfl (mx_inc _) (Nat.le_of_ble_eq_true rfl) rfl ?_
      refine mx_goto 100 dL_set_125 rfl ?_
      exact ih
  have l2 : ∀ i, i ≤ 27 → mx_W mx_K mT mCl jL_set (mR 3 72) 52 [.ref 6, .ref 1, .ref 2, .ref 5, .int k, .int (nI i), .retAddr 0] [] (pic (nI c) fil (lp lWire i (lS1 c I)) L) Q := by
    refine lp_down ?_ ?_
    · refine mx_iload dL_set_52 rfl ?_
      refine mx_bipush (27) dL_set_54 (by decide) ?_
      refine mx_icmp_ge 97 dL_set_56 rfl (fun h56 => ?_) (fun h56 => ?_)
      rotate_left
      · exact absurd (show (27 : Int32) ≤ nI 27 by decide) h56
      refine mx_iconst (1) dL_set_97 (by decide) ?_
      refine mx_istore dL_set_98 (Nat.le_of_ble_eq_true rfl) rfl ?_
      have l30 := l3 0 (Nat.zero_le _)
      rw [lp_zero] at l30
      unfold lS2 at l30
      exact l30
    · intro i hi ih
      have hlow : (lp lWire i (lS1 c I)) 12 = I 12 := lp_keep (P := fun (G : Nat → Nat → Int32) => G 12 = I 12) (lS1_low (by decide)) i (fun j t _ ht => by rw [lWire_low (by decide)]; exact ht)
      have ih : mx_W mx_K mT mCl jL_set (mR 3 72) 52 [.ref 6, .ref 1, .ref 2, .ref 5, .int k, .int (nI (i + 1)), .retAddr 0] [] (pic (nI c) fil (lWire i (lp lWire i (lS1 c I))) L) Q := ih
      generalize lp lWire i (lS1 c I) = G at ih hlow ⊢
      have hs12 : G 12 i ≤ 12 := by rw [hlow]; exact hsr i hi
      obtain ⟨u, hu, eu⟩ := vp_in_of (bh_in hs12) (by decide)
      have hv := gbf_le hi
      have hcl : (bh (G 12) i).toNatClampNeg = u := by rw [eu, nI_clamp (by omega)]
      have hwi : vp_in (nI i) 27 := vp_in_nI hi (by decide)
      unfold lWire at ih
      rw [hcl] at ih
      refine mx_iload dL_set_52 rfl ?_
      refine mx_bipush (27) dL_set_54 (by decide) ?_
      refine mx_icmp_ge 97 dL_set_56 rfl (fun h56 => ?_) (fun h56 => ?_)
      · exact absurd h56 (nI_ge (b := 27) hi (by decide))
      refine mx_aload_n dL_set_59 rfl ?_
      refine mx_get 1 3 dL_set_60 fgL_26 rfl rfl ?_
      refine mx_iload dL_set_63 rfl ?_
      refine mx_iald dL_set_65 rfl hwi ?_
      rw [nI_clamp (by omega)]
      refine mx_if_eq 91 dL_set_66 rfl (fun h66 => ?_) (fun h66 => ?_)
      · first | rw [if_pos h66] at ih | rw [if_neg h66] at ih
        refine mx_iinc dL_set_91 rfl (mx_inc _) (Nat.le_of_ble_eq_true rfl) rfl ?_
        refine mx_goto 52 dL_set_94 rfl ?_
        exact ih
      · refine mx_aload_n dL_set_69 rfl ?_
        refine mx_aload_n dL_set_70 rfl ?_
        refine mx_iload dL_set_71 rfl ?_
        refine mx_V1 (R' := (mR 1 24)) [_] _ dL_set_73 rfl mT_G jP_gateBehind_ok jP_gateBehind_v lkL_29 ⟨rfl, rfl, Nat.le_of_ble_eq_true rfl, Nat.le_of_ble_eq_true rfl⟩ rfl rfl (Nat.le_of_ble_eq_true rfl) (Nat.le_of_ble_eq_true rfl) rfl rfl rfl (fun Qc qc => cP_gateBehind pic_P hwi qc) ?_
        rw [gb_nat (by omega), eu]
        refine mx_aload_n dL_set_76 rfl ?_
        refine mx_iload dL_set_77 rfl ?_
        refine mx_V1 (R' := (mR 0 0)) [_] _ dL_set_79 rfl mT_G jP_gateBefore_ok jP_gateBefore_v lkL_33 ⟨rfl, rfl, Nat.le_of_ble_eq_true rfl, Nat.le_of_ble_eq_true rfl⟩ rfl rfl (Nat.le_of_ble_eq_true rfl) (Nat.le_of_ble_eq_true rfl) rfl rfl rfl (fun Qc qc => cP_gateBefore qc) ?_
        rw [gbf_nat (by omega)]
        refine mx_aload_n dL_set_82 rfl ?_
        refine mx_iload dL_set_83 rfl ?_
        refine mx_V1 (R' := (mR 0 0)) [_] _ dL_set_85 rfl mT_G jB_length_ok jB_length_v lkL_36 ⟨rfl, rfl, Nat.le_of_ble_eq_true rfl, Nat.le_of_ble_eq_true rfl⟩ rfl rfl (Nat.le_of_ble_eq_true rfl) (Nat.le_of_ble_eq_true rfl) rfl rfl rfl (fun Qc qc => cB_length pic_B hwi qc) ?_
        rw [nI_clamp (by omega)]
        refine mx_V1 (R' := (mR 2 47)) [_, _, _] _ dL_set_88 rfl mT_G jL_limitWire_ok jL_limitWire_v lkL_41 ⟨rfl, rfl, Nat.le_of_ble_eq_true rfl, Nat.le_of_ble_eq_true rfl⟩ rfl rfl (Nat.le_of_ble_eq_true rfl) (Nat.le_of_ble_eq_true rfl) rfl rfl rfl (fun Qc qc => cL_limitWire hu (by omega) qc) ?_
        first | rw [if_pos h66] at ih | rw [if_neg h66] at ih
        refine mx_iinc dL_set_91 rfl (mx_inc _) (Nat.le_of_ble_eq_true rfl) rfl ?_
        refine mx_goto 52 dL_set_94 rfl ?_
        exact ih
  have l1i : ∀ (a : Nat) (G : Nat → Nat → Int32), a ≤ c → mx_W mx_K mT mCl jL_set (mR 3 72) 43 [.ref 6, .ref 1, .ref 2, .ref 5, .int k, .int (nI a), .int (nI (c + 1))] [] (pic (nI c) fil (lp (fun b G => upI G (52 + a) (upd (G (52 + a)) b 1000)) (c + 1) G) L) Q → ∀ i, i ≤ c + 1 → mx_W mx_K mT mCl jL_set (mR 3 72) 15 [.ref 6, .ref 1, .ref 2, .ref 5, .int k, .int (nI a), .int (nI i)] [] (pic (nI c) fil (lp (fun b G => upI G (52 + a) (upd (G (52 + a)) b 1000)) i G) L) Q := by
    intro a G ha hk
    refine lp_down ?_ ?_
    · refine mx_iload dL_set_15 rfl ?_
      refine mx_aload_n dL_set_17 rfl ?_
      refine mx_get 1 0 dL_set_18 fgL_20 rfl rfl ?_
      refine mx_icmp_gt 43 dL_set_21 rfl (fun h21 => ?_) (fun h21 => ?_)
      rotate_left
      · exact absurd (nI_lt (Nat.lt_succ_self c) (by omega)) h21
      exact hk
    · intro i hi ih
      refine mx_iload dL_set_15 rfl ?_
      refine mx_aload_n dL_set_17 rfl ?_
      refine mx_get 1 0 dL_set_18 fgL_20 rfl rfl ?_
      refine mx_icmp_gt 43 dL_set_21 rfl (fun h21 => ?_) (fun h21 => ?_)
      · exact absurd h21 (nI_nlt (by omega) (by omega))
      refine mx_aload_n dL_set_24 rfl ?_
      refine mx_get 5 1 dL_set_25 fgL_17 rfl rfl ?_
      refine mx_iload dL_set_28 rfl ?_
      refine mx_aald dL_set_30 rfl (vp_in_nI (by omega) (by decide)) (eg_at (by omega)) ?_
      refine mx_iload dL_set_31 rfl ?_
      refine mx_sipush (1000) dL_set_33 (by decide) ?_
      refine mx_iast dL_set_36 (pic_row (by omega) (by omega)) (vp_in_nI (by omega) (by decide)) ?_
      rw [nI_clamp (by omega), pic_srow (by omega) (by omega)]
      refine mx_iinc dL_set_37 rfl (mx_inc _) (Nat.le_of_ble_eq_true rfl) rfl ?_
      refine mx_goto 15 dL_set_40 rfl ?_
      exact ih
  have l1 : ∀ i, i ≤ c + 1 → mx_W mx_K mT mCl jL_set (mR 3 72) 3 [.ref 6, .ref 1, .ref 2, .ref 5, .int k, .int (nI i), .retAddr 0] [] (pic (nI c) fil (lp (fun a G => lp (fun b G => upI G (52 + a) (upd (G (52 + a)) b 1000)) (c + 1) G) i I) L) Q := by
    refine lp_down ?_ ?_
    · refine mx_iload dL_set_3 rfl ?_
      refine mx_aload_n dL_set_5 rfl ?_
      refine mx_get 1 0 dL_set_6 fgL_20 rfl rfl ?_
      refine mx_icmp_gt 49 dL_set_9 rfl (fun h9 => ?_) (fun h9 => ?_)
      rotate_left
      · exact absurd (nI_lt (Nat.lt_succ_self c) (by omega)) h9
      refine mx_iconst (0) dL_set_49 (by decide) ?_
      refine mx_istore dL_set_50 (Nat.le_of_ble_eq_true rfl) rfl ?_
      have l20 := l2 0 (Nat.zero_le _)
      rw [lp_zero] at l20
      unfold lS1 at l20
      exact l20
    · intro i hi ih
      refine mx_iload dL_set_3 rfl ?_
      refine mx_aload_n dL_set_5 rfl ?_
      refine mx_get 1 0 dL_set_6 fgL_20 rfl rfl ?_
      refine mx_icmp_gt 49 dL_set_9 rfl (fun h9 => ?_) (fun h9 => ?_)
      · exact absurd h9 (nI_nlt (by omega) (by omega))
      refine mx_iconst (0) dL_set_12 (by decide) ?_
      refine mx_istore dL_set_13 (Nat.le_of_ble_eq_true rfl) rfl ?_
      refine l1i i _ (by omega) ?_ 0 (Nat.zero_le _)
      refine mx_iinc dL_set_43 rfl (mx_inc _) (Nat.le_of_ble_eq_true rfl) rfl ?_
      refine mx_goto 3 dL_set_46 rfl ?_
      refine mx_drop 6 ?_
      exact ih
  refine mx_iconst (0) dL_set_0 (by decide) ?_
  refine mx_istore dL_set_1 (Nat.le_of_ble_eq_true rfl) rfl ?_
  exact l1 0 (Nat.zero_le _)
/-- labels, and whether one was lowered -/
abbrev lS : Type := (Nat → Int32) × Int32
def lStep (M : Nat → Nat → Int32) (a b : Nat) (s : lS) : lS := if s.1 a ≤ s.1 b + M a b then s else (upd s.1 a (s.1 b + M a b), 1)
def lLow (c : Nat) (M : Nat → Nat → Int32) (lab : Nat → Int32) : lS := lp (fun a s => lp (fun b s => lStep M a b s) (c + 1) s) (c + 1) (lab, 0)
theorem cL_lowerAll {c : Nat} {cnt fil : Int32} {I : Nat → Nat → Int32} {L : Nat → Nat → Int64} {Q : mx_O → List va_E → Prop} (hc : c ≤ 12) {lab : Nat → Int32} (hQ : Q (.inl (some (.int ((lLow c (fun a b => I (52 + a) b) lab).2)))) (pic cnt fil (upI I 21 (lLow c (fun a b => I (52 + a) b) lab).1) L)) : mx_W mx_K mT mCl jL_lowerAll (mR 0 0) 0 [.ref 6, .int (nI c), .retAddr 0, .retAddr 0, .retAddr 0] [] (pic cnt fil (upI I 21 lab) L) Q := by
  have hz : ∀ s : lS, (lLow c (fun a b => I (52 + a) b) lab = s) → (s.2 = 0 ∨ s.2 = 1) := by
    intro s hs
    rw [← hs]
    unfold lLow
    refine lp_keep (P := fun (s : lS) => s.2 = 0 ∨ s.2 = 1) (Or.inl rfl) (c + 1) (fun a t _ ht => lp_keep (P := fun (s : lS) => s.2 = 0 ∨ s.2 = 1) ht (c + 1) (fun b t _ ht => ?_))
    unfold lStep
    split
    · exact ht
    · exact Or.inr rfl
  have li : ∀ (a : Nat) (s : lS), a ≤ c → mx_W mx_K mT mCl jL_lowerAll (mR 0 0) 75 [.ref 6, .int (nI c), .int (lp (fun b s => lStep (fun a b => I (52 + a) b) a b s) (c + 1) s).2, .int (nI a), .int (nI (c + 1))] [] (pic cnt fil (upI I 21 (lp (fun b s => lStep (fun a b => I (52 + a) b) a b s) (c + 1) s).1) L) Q → ∀ i, i ≤ c + 1 → mx_W mx_K mT mCl jL_lowerAll (mR 0 0) 12 [.ref 6, .int (nI c), .int (lp (fun b s => lStep (fun a b => I (52 + a) b) a b s) i s).2, .int (nI a), .int (nI i)] [] (pic cnt fil (upI I 21 (lp (fun b s => lStep (fun a b => I (52 + a) b) a b s) i s).1) L) Q := by
    intro a s ha hk
    refine lp_down ?_ ?_
    · refine mx_iload dL_lowerAll_12 rfl ?_
      refine mx_iload_n dL_lowerAll_14 rfl ?_
      refine mx_icmp_gt 75 dL_lowerAll_15 rfl (fun h15 => ?_) (fun h15 => ?_)
      rotate_left
      · exact absurd (nI_lt (Nat.lt_succ_self c) (by omega)) h15
      exact hk
    · intro i hi ih
      have ih : mx_W mx_K mT mCl jL_lowerAll (mR 0 0) 12 [.ref 6, .int (nI c), .int (lStep (fun a b => I (52 + a) b) a i (lp (fun b s => lStep (fun a b => I (52 + a) b) a b s) i s)).2, .int (nI a), .int (nI (i + 1))] [] (pic cnt fil (upI I 21 (lStep (fun a b => I (52 + a) b) a i (lp (fun b s => lStep (fun a b => I (52 + a) b) a b s) i s)).1) L) Q := ih
      generalize lp (fun b s => lStep (fun a b => I (52 + a) b) a b s) i s = t at ih ⊢
      unfold lStep at ih
      refine mx_iload dL_lowerAll_12 rfl ?_
      refine mx_iload_n dL_lowerAll_14 rfl ?_
      refine mx_icmp_gt 75 dL_lowerAll_15 rfl (fun h15 => ?_) (fun h15 => ?_)
      · exact absurd h15 (nI_nlt (by omega) (by omega))
      refine mx_aload_n dL_lowerAll_18 rfl ?_
      refine mx_get 5 0 dL_lowerAll_19 fgL_9 rfl rfl ?_
      refine mx_iload_n dL_lowerAll_22 rfl ?_
      refine mx_iald dL_lowerAll_23 rfl (vp_in_nI (by omega) (by decide)) ?_
      rw [nI_clamp (by omega), upI_self]
      refine mx_aload_n dL_lowerAll_24 rfl ?_
      refine mx_get 5 0 dL_lowerAll_25 fgL_9 rfl rfl ?_
      refine mx_iload dL_lowerAll_28 rfl ?_
      refine mx_iald dL_lowerAll_30 rfl (vp_in_nI (by omega) (by decide)) ?_
      rw [nI_clamp (by omega), upI_self]
      refine mx_aload_n dL_lowerAll_31 rfl ?_
      refine mx_get 5 1 dL_lowerAll_32 fgL_17 rfl rfl ?_
      refine mx_iload_n dL_lowerAll_35 rfl ?_
      refine mx_aald dL_lowerAll_36 rfl (vp_in_nI (by omega) (by decide)) (eg_at (by omega)) ?_
      refine mx_iload dL_lowerAll_37 rfl ?_
      refine mx_iald dL_lowerAll_39 (by rw [pic_row (by omega) (by omega), upI_ne _ _ (by omega)]) (vp_in_nI (by omega) (by decide)) ?_
      rw [nI_clamp (by omega)]
      refine mx_iadd dL_lowerAll_40 ?_
      refine mx_icmp_le 69 dL_lowerAll_41 rfl (fun h41 => ?_) (fun h41 => ?_)
      · first | rw [if_pos h41] at ih | rw [if_neg h41] at ih
        refine mx_iinc dL_lowerAll_69 rfl (mx_inc _) (Nat.le_of_ble_eq_true rfl) rfl ?_
        refine mx_goto 12 dL_lowerAll_72 rfl ?_
        exact ih
      · refine mx_aload_n dL_lowerAll_44 rfl ?_
        refine mx_get 5 0 dL_lowerAll_45 fgL_9 rfl rfl ?_
        refine mx_iload_n dL_lowerAll_48 rfl ?_
        refine mx_aload_n dL_lowerAll_49 rfl ?_
        refine mx_get 5 0 dL_lowerAll_50 fgL_9 rfl rfl ?_
        refine mx_iload dL_lowerAll_53 rfl ?_
        refine mx_iald dL_lowerAll_55 rfl (vp_in_nI (by omega) (by decide)) ?_
        rw [nI_clamp (by omega), upI_self]
        refine mx_aload_n dL_lowerAll_56 rfl ?_
        refine mx_get 5 1 dL_lowerAll_57 fgL_17 rfl rfl ?_
        refine mx_iload_n dL_lowerAll_60 rfl ?_
        refine mx_aald dL_lowerAll_61 rfl (vp_in_nI (by omega) (by decide)) (eg_at (by omega)) ?_
        refine mx_iload dL_lowerAll_62 rfl ?_
        refine mx_iald dL_lowerAll_64 (by rw [pic_row (by omega) (by omega), upI_ne _ _ (by omega)]) (vp_in_nI (by omega) (by decide)) ?_
        rw [nI_clamp (by omega)]
        refine mx_iadd dL_lowerAll_65 ?_
        refine mx_iast dL_lowerAll_66 rfl (vp_in_nI (by omega) (by decide)) ?_
        rw [nI_clamp (by omega), upI_self]
        refine mx_eqs rfl rfl rfl (pic_21 _) ?_
        rw [upI_upI]
        refine mx_iconst (1) dL_lowerAll_67 (by decide) ?_
        refine mx_istore_n dL_lowerAll_68 (Nat.le_of_ble_eq_true rfl) rfl ?_
        first | rw [if_pos h41] at ih | rw [if_neg h41] at ih
        refine mx_iinc dL_lowerAll_69 rfl (mx_inc _) (Nat.le_of_ble_eq_true rfl) rfl ?_
        refine mx_goto 12 dL_lowerAll_72 rfl ?_
        exact ih
  have l1 : ∀ i, i ≤ c + 1 → mx_W mx_K mT mCl jL_lowerAll (mR 0 0) 4 [.ref 6, .int (nI c), .int (lp (fun a s => lp (fun b s => lStep (fun a b => I (52 + a) b) a b s) (c + 1) s) i (lab, 0)).2, .int (nI i), .retAddr 0] [] (pic cnt fil (upI I 21 (lp (fun a s => lp (fun b s => lStep (fun a b => I (52 + a) b) a b s) (c + 1) s) i (lab, 0)).1) L) Q := by
    refine lp_down ?_ ?_
    · refine mx_iload_n dL_lowerAll_4 rfl ?_
      refine mx_iload_n dL_lowerAll_5 rfl ?_
      refine mx_icmp_gt 81 dL_lowerAll_6 rfl (fun h6 => ?_) (fun h6 => ?_)
      rotate_left
      · exact absurd (nI_lt (Nat.lt_succ_self c) (by omega)) h6
      refine mx_iload_n dL_lowerAll_81 rfl ?_
      refine mx_iret dL_lowerAll_82 rfl (by rcases hz _ rfl with e | e <;> (unfold lLow at e; rw [e]; rfl)) ?_
      exact hQ
    · intro i hi ih
      refine mx_iload_n dL_lowerAll_4 rfl ?_
      refine mx_iload_n dL_lowerAll_5 rfl ?_
      refine mx_icmp_gt 81 dL_lowerAll_6 rfl (fun h6 => ?_) (fun h6 => ?_)
      · exact absurd h6 (nI_nlt (by omega) (by omega))
      refine mx_iconst (0) dL_lowerAll_9 (by decide) ?_
      refine mx_istore dL_lowerAll_10 (Nat.le_of_ble_eq_true rfl) rfl ?_
      refine li i _ (by omega) ?_ 0 (Nat.zero_le _)
      refine mx_iinc dL_lowerAll_75 rfl (mx_inc _) (Nat.le_of_ble_eq_true rfl) rfl ?_
      refine mx_goto 4 dL_lowerAll_78 rfl ?_
      refine mx_drop 4 ?_
      exact ih
  refine mx_iconst (0) dL_lowerAll_0 (by decide) ?_
  refine mx_istore_n dL_lowerAll_1 (Nat.le_of_ble_eq_true rfl) rfl ?_
  refine mx_iconst (0) dL_lowerAll_2 (by decide) ?_
  refine mx_istore_n dL_lowerAll_3 (Nat.le_of_ble_eq_true rfl) rfl ?_
  exact l1 0 (Nat.zero_le _)
def lAll (c : Nat) (lab : Nat → Int32) : Bool := allB c (fun i => decide (-6 ≤ lab (i + 1))) && decide (lab 0 = 0)
theorem cL_areAllowed {c : Nat} {cnt fil : Int32} {I : Nat → Nat → Int32} {L : Nat → Nat → Int64} {Q : mx_O → List va_E → Prop} (hc : c ≤ 12) (hQ : Q (.inl (some (.int (i01 (lAll c (I 21)))))) (pic cnt fil I L)) : mx_W mx_K mT mCl jL_areAllowed (mR 0 0) 0 [.ref 6, .int (nI c), .retAddr 0] [] (pic cnt fil I L) Q := by
  unfold lAll at hQ
  have hloop : ∀ i, i ≤ c → (∀ j, j < i → -6 ≤ I 21 (j + 1)) → mx_W mx_K mT mCl jL_areAllowed (mR 0 0) 2 [.ref 6, .int (nI c), .int (nI (i + 1))] [] (pic cnt fil I L) Q := by
    refine lp_down ?_ ?_
    · intro hno
      rw [show allB c (fun i => decide (-6 ≤ I 21 (i + 1))) = true from allB_iff.mpr (fun j hj => decide_eq_true (hno j hj)), Bool.true_and] at hQ
      refine mx_iload_n dL_areAllowed_2 rfl ?_
      refine mx_iload_n dL_areAllowed_3 rfl ?_
      refine mx_icmp_gt 26 dL_areAllowed_4 rfl (fun h4 => ?_) (fun h4 => ?_)
      rotate_left
      · exact absurd (nI_lt (Nat.lt_succ_self c) (by omega)) h4
      refine mx_aload_n dL_areAllowed_26 rfl ?_
      refine mx_get 5 0 dL_areAllowed_27 fgL_9 rfl rfl ?_
      refine mx_iconst (0) dL_areAllowed_30 (by decide) ?_
      refine mx_iald dL_areAllowed_31 rfl (vp_in_nI (n := 0) (by decide) (by decide)) ?_
      rw [sb_cl0]
      refine mx_if_ne 39 dL_areAllowed_32 rfl (fun h32 => ?_) (fun h32 => ?_)
      · refine mx_iconst (0) dL_areAllowed_39 (by decide) ?_
        refine mx_iret dL_areAllowed_40 rfl rfl ?_
        rw [i01_f (decide_eq_false h32)] at hQ
        exact hQ
      · refine mx_iconst (1) dL_areAllowed_35 (by decide) ?_
        refine mx_goto 40 dL_areAllowed_36 rfl ?_
        refine mx_iret dL_areAllowed_40 rfl rfl ?_
        rw [i01_t (decide_eq_true h32)] at hQ
        exact hQ
    · intro i hi ih hno
      refine mx_iload_n dL_areAllowed_2 rfl ?_
      refine mx_iload_n dL_areAllowed_3 rfl ?_
      refine mx_icmp_gt 26 dL_areAllowed_4 rfl (fun h4 => ?_) (fun h4 => ?_)
      · exact absurd h4 (nI_nlt (by omega) (by omega))
      refine mx_aload_n dL_areAllowed_7 rfl ?_
      refine mx_get 5 0 dL_areAllowed_8 fgL_9 rfl rfl ?_
      refine mx_iload_n dL_areAllowed_11 rfl ?_
      refine mx_iald dL_areAllowed_12 rfl (vp_in_nI (by omega) (by decide)) ?_
      rw [nI_clamp (by omega)]
      refine mx_bipush (-6) dL_areAllowed_13 (by decide) ?_
      refine mx_icmp_ge 20 dL_areAllowed_15 rfl (fun h15 => ?_) (fun h15 => ?_)
      · refine mx_iinc dL_areAllowed_20 rfl (mx_inc _) (Nat.le_of_ble_eq_true rfl) rfl ?_
        refine mx_goto 2 dL_areAllowed_23 rfl ?_
        refine ih (fun j hj => ?_)
        by_cases e : j = i
        · subst e; exact h15
        · exact hno j (by omega)
      · refine mx_iconst (0) dL_areAllowed_18 (by decide) ?_
        refine mx_iret dL_areAllowed_19 rfl rfl ?_
        rw [show allB c (fun i => decide (-6 ≤ I 21 (i + 1))) = false from allB_no hi (by simpa using h15), Bool.false_and] at hQ
        exact hQ
  refine mx_iconst (1) dL_areAllowed_0 (by decide) ?_
  refine mx_istore_n dL_areAllowed_1 (Nat.le_of_ble_eq_true rfl) rfl ?_
  exact hloop 0 (Nat.zero_le _) (fun j hj => absurd hj (Nat.not_lt_zero j))
def lRun (c : Nat) (M : Nat → Nat → Int32) : Nat → (Nat → Int32) → (Nat → Int32) × Bool
  | 0, lab => (lab, false)
  | n + 1, lab => if lAll c (lLow c M lab).1 = true then (if (lLow c M lab).2 = 0 then ((lLow c M lab).1, true) else lRun c M n (lLow c M lab).1) else ((lLow c M lab).1, false)
def lIni (c : Nat) (hi : Int32) (lab : Nat → Int32) : Nat → Int32 := lp (fun i l => upd l (i + 1) hi) c (upd lab 0 0)
/-- what Limits.solve leaves in labels, and its answer -/
def lSol (c : Nat) (hi : Int32) (I : Nat → Nat → Int32) : (Nat → Int32) × Bool := lRun c (fun a b => I (52 + a) b) 146 (lIni c hi (I 21))
theorem i01_nz {b : Bool} (h : ¬ i01 b = 0) : b = true := by
  cases b with
  | true => rfl
  | false => exact absurd rfl h
theorem i01_z {b : Bool} (h : i01 b = 0) : b = false := by
  cases b with
  | false => rfl
  | true => exact absurd h (by decide)
theorem cL_solve {c : Nat} {cnt fil : Int32} {I : Nat → Nat → Int32} {L : Nat → Nat → Int64} {Q : mx_O → List va_E → Prop} (hc : c ≤ 12) {hi : Int32} (hQ : Q (.inl (some (.int (i01 (lSol c hi I).2)))) (pic cnt fil (upI I 21 (lSol c hi I).1) L)) : mx_W mx_K mT mCl jL_solve (mR 1 24) 0 [.ref 6, .int (nI c), .int hi, .retAddr 0, .retAddr 0] [] (pic cnt fil I L) Q := by
  have l2 : ∀ r, r ≤ 146 → ∀ lab : Nat → Int32, Q (.inl (some (.int (i01 (lRun c (fun a b => I (52 + a) b) (146 - r) lab).2)))) (pic cnt fil (upI I 21 (lRun c (fun a b => I (52 + a) b) (146 - r) lab).1) L) → mx_W mx_K mT mCl jL_solve (mR 1 24) 29 [.ref 6, .int (nI c), .int hi, .int (nI r), .retAddr 0] [] (pic cnt fil (upI I 21 lab) L) Q := by
    refine lp_down ?_ ?_
    · intro lab hq
      rw [Nat.sub_self] at hq
      refine mx_iload_n dL_solve_29 rfl ?_
      refine mx_sipush (146) dL_solve_30 (by decide) ?_
      refine mx_icmp_ge 66 dL_solve_33 rfl (fun h33 => ?_) (fun h33 => ?_)
      rotate_left
      · exact absurd (show (146 : Int32) ≤ nI 146 by decide) h33
      refine mx_iconst (0) dL_solve_66 (by decide) ?_
      refine mx_iret dL_solve_67 rfl rfl ?_
      exact hq
    · intro r hr ih lab hq
      rw [show 146 - r = (146 - (r + 1)) + 1 by omega] at hq
      unfold lRun at hq
      refine mx_iload_n dL_solve_29 rfl ?_
      refine mx_sipush (146) dL_solve_30 (by decide) ?_
      refine mx_icmp_ge 66 dL_solve_33 rfl (fun h33 => ?_) (fun h33 => ?_)
      · exact absurd h33 (nI_ge (b := 146) hr (by decide))
      refine mx_aload_n dL_solve_36 rfl ?_
      refine mx_iload_n dL_solve_37 rfl ?_
      refine mx_V1 (R' := (mR 0 0)) [_] _ dL_solve_38 rfl mT_G jL_lowerAll_ok jL_lowerAll_v lkL_49 ⟨rfl, rfl, Nat.le_of_ble_eq_true rfl, Nat.le_of_ble_eq_true rfl⟩ rfl rfl (Nat.le_of_ble_eq_true rfl) (Nat.le_of_ble_eq_true rfl) rfl rfl rfl (fun Qc qc => cL_lowerAll hc qc) ?_
      refine mx_istore dL_solve_41 (Nat.le_of_ble_eq_true rfl) rfl ?_
      refine mx_aload_n dL_solve_43 rfl ?_
      refine mx_iload_n dL_solve_44 rfl ?_
      refine mx_V1 (R' := (mR 0 0)) [_] _ dL_solve_45 rfl mT_G jL_areAllowed_ok jL_areAllowed_v lkL_53 ⟨rfl, rfl, Nat.le_of_ble_eq_true rfl, Nat.le_of_ble_eq_true rfl⟩ rfl rfl (Nat.le_of_ble_eq_true rfl) (Nat.le_of_ble_eq_true rfl) rfl rfl rfl (fun Qc qc => cL_areAllowed (I := upI I 21 (lLow c (fun a b => I (52 + a) b) lab).1) hc qc) ?_
      rw [upI_self]
      refine mx_if_ne 53 dL_solve_48 rfl (fun h48 => ?_) (fun h48 => ?_)
      · refine mx_iload dL_solve_53 rfl ?_
        refine mx_if_ne 60 dL_solve_55 rfl (fun h55 => ?_) (fun h55 => ?_)
        · rw [if_pos (i01_nz h48), if_neg h55] at hq
          refine mx_iinc dL_solve_60 rfl (mx_inc _) (Nat.le_of_ble_eq_true rfl) rfl ?_
          refine mx_goto 29 dL_solve_63 rfl ?_
          refine mx_drop 4 ?_
          exact ih _ hq
        · refine mx_iconst (1) dL_solve_58 (by decide) ?_
          refine mx_iret dL_solve_59 rfl rfl ?_
          rw [if_pos (i01_nz h48), if_pos h55] at hq
          exact hq
      · refine mx_iconst (0) dL_solve_51 (by decide) ?_
        refine mx_iret dL_solve_52 rfl rfl ?_
        rw [if_neg (by rw [i01_z h48]; decide)] at hq
        exact hq
  have l1 : ∀ i, i ≤ c → mx_W mx_K mT mCl jL_solve (mR 1 24) 9 [.ref 6, .int (nI c), .int hi, .int (nI (i + 1)), .retAddr 0] [] (pic cnt fil (upI I 21 (lp (fun i l => upd l (i + 1) hi) i (upd (I 21) 0 0))) L) Q := by
    refine lp_down ?_ ?_
    · refine mx_iload_n dL_solve_9 rfl ?_
      refine mx_iload_n dL_solve_10 rfl ?_
      refine mx_icmp_gt 27 dL_solve_11 rfl (fun h11 => ?_) (fun h11 => ?_)
      rotate_left
      · exact absurd (nI_lt (Nat.lt_succ_self c) (by omega)) h11
      refine mx_iconst (0) dL_solve_27 (by decide) ?_
      refine mx_istore_n dL_solve_28 (Nat.le_of_ble_eq_true rfl) rfl ?_
      exact l2 0 (Nat.zero_le _) _ hQ
    · intro i hi2 ih
      refine mx_iload_n dL_solve_9 rfl ?_
      refine mx_iload_n dL_solve_10 rfl ?_
      refine mx_icmp_gt 27 dL_solve_11 rfl (fun h11 => ?_) (fun h11 => ?_)
      · exact absurd h11 (nI_nlt (by omega) (by omega))
      refine mx_aload_n dL_solve_14 rfl ?_
      refine mx_get 5 0 dL_solve_15 fgL_9 rfl rfl ?_
      refine mx_iload_n dL_solve_18 rfl ?_
      refine mx_iload_n dL_solve_19 rfl ?_
      refine mx_iast dL_solve_20 rfl (vp_in_nI (by omega) (by decide)) ?_
      rw [nI_clamp (by omega), upI_self]
      refine mx_eqs rfl rfl rfl (pic_21 _) ?_
      rw [upI_upI]
      refine mx_iinc dL_solve_21 rfl (mx_inc _) (Nat.le_of_ble_eq_true rfl) rfl ?_
      refine mx_goto 9 dL_solve_24 rfl ?_
      exact ih
  refine mx_aload_n dL_solve_0 rfl ?_
  refine mx_get 5 0 dL_solve_1 fgL_9 rfl rfl ?_
  refine mx_iconst (0) dL_solve_4 (by decide) ?_
  refine mx_iconst (0) dL_solve_5 (by decide) ?_
  refine mx_iast dL_solve_6 rfl (vp_in_nI (n := 0) (by decide) (by decide)) ?_
  refine mx_iconst (1) dL_solve_7 (by decide) ?_
  refine mx_istore_n dL_solve_8 (Nat.le_of_ble_eq_true rfl) rfl ?_
  refine mx_eqs rfl rfl rfl (pic_21 _) ?_
  exact l1 0 (Nat.zero_le _)
