/-! Paths. -/
theorem eg_at {o u : Nat} (h : u < 13) : (fun i => if i < 13 then some (o + i) else none) (nI u).toNatClampNeg = some (o + u) := by
  show (if (nI u).toNatClampNeg < 13 then some (o + (nI u).toNatClampNeg) else none) = _
  rw [nI_clamp (by omega), if_pos h]
def hPut (I : Nat → Nat → Int32) (u v : Nat) (r t : Int32) : Nat → Nat → Int32 := upI (upI I (26 + u) (upd (I (26 + u)) v r)) (39 + u) (upd (I (39 + u)) v t)
def hOffer (I : Nat → Nat → Int32) (u v : Nat) (r t : Int32) : Nat → Nat → Int32 := if I (26 + u) v = -1 then hPut I u v r t else if r < I (26 + u) v then hPut I u v r t else if ¬ r = I (26 + u) v then I else if t ≤ I (39 + u) v then I else hPut I u v r t
theorem cH_offer {cnt : Int32} {fil : Int32} {I : Nat → Nat → Int32} {L : Nat → Nat → Int64} {Q : mx_O → List va_E → Prop} {u v : Nat} {r t : Int32} (hu : u < 13) (hv : v < 13) (hQ : Q (.inl none) (pic cnt fil (hOffer I u v r t) L)) : mx_W mx_K mT mCl jH_offer (mR 0 0) 0 [.ref 5, .int (nI u), .int (nI v), .int r, .int t, .retAddr 0] [] (pic cnt fil I L) Q := by
  have hset : ∀ x, Q (.inl none) (pic cnt fil (hPut I u v r t) L) → mx_W mx_K mT mCl jH_offer (mR 0 0) 41 [.ref 5, .int (nI u), .int (nI v), .int r, .int t, .int x] [] (pic cnt fil I L) Q := by
    intro x hq
    refine mx_aload_n dH_offer_41 rfl ?_
    refine mx_get 4 0 dH_offer_42 fgH_11 rfl rfl ?_
    refine mx_iload_n dH_offer_45 rfl ?_
    refine mx_aald dH_offer_46 rfl (vp_in_nI hu (by decide)) (eg_at hu) ?_
    refine mx_iload_n dH_offer_47 rfl ?_
    refine mx_iload_n dH_offer_48 rfl ?_
    refine mx_iast dH_offer_49 (pic_row (by omega) (by omega)) (vp_in_nI hv (by decide)) ?_
    rw [nI_clamp (by omega)]
    refine mx_eqs rfl rfl rfl (pic_srow (by omega) (by omega) _) ?_
    refine mx_aload_n dH_offer_50 rfl ?_
    refine mx_get 4 1 dH_offer_51 fgH_16 rfl rfl ?_
    refine mx_iload_n dH_offer_54 rfl ?_
    refine mx_aald dH_offer_55 rfl (vp_in_nI hu (by decide)) (eg_at hu) ?_
    refine mx_iload_n dH_offer_56 rfl ?_
    refine mx_iload dH_offer_57 rfl ?_
    refine mx_iast dH_offer_59 (pic_row (by omega) (by omega)) (vp_in_nI hv (by decide)) ?_
    refine mx_vret dH_offer_60 rfl ?_
    rw [nI_clamp (by omega), pic_srow (by omega) (by omega), upI_ne _ _ (by omega)]
    exact hq
  refine mx_aload_n dH_offer_0 rfl ?_
  refine mx_get 4 0 dH_offer_1 fgH_11 rfl rfl ?_
  refine mx_iload_n dH_offer_4 rfl ?_
  refine mx_aald dH_offer_5 rfl (vp_in_nI hu (by decide)) (eg_at hu) ?_
  refine mx_iload_n dH_offer_6 rfl ?_
  refine mx_iald dH_offer_7 (pic_row (by omega) (by omega)) (vp_in_nI hv (by decide)) ?_
  rw [nI_clamp (by omega)]
  refine mx_istore dH_offer_8 (Nat.le_of_ble_eq_true rfl) rfl ?_
  refine mx_iload dH_offer_10 rfl ?_
  refine mx_iconst (-1) dH_offer_12 (by decide) ?_
  refine mx_icmp_eq 41 dH_offer_13 rfl (fun h13 => ?_) (fun h13 => ?_)
  · have e : hOffer I u v r t = hPut I u v r t := by
      unfold hOffer
      (repeat' split) <;> first | rfl | contradiction
    rw [e] at hQ
    exact hset _ hQ
  · refine mx_iload_n dH_offer_16 rfl ?_
    refine mx_iload dH_offer_17 rfl ?_
    refine mx_icmp_lt 41 dH_offer_19 rfl (fun h19 => ?_) (fun h19 => ?_)
    · have e : hOffer I u v r t = hPut I u v r t := by
        unfold hOffer
        (repeat' split) <;> first | rfl | contradiction
      rw [e] at hQ
      exact hset _ hQ
    · refine mx_iload_n dH_offer_22 rfl ?_
      refine mx_iload dH_offer_23 rfl ?_
      refine mx_icmp_ne 60 dH_offer_25 rfl (fun h25 => ?_) (fun h25 => ?_)
      · refine mx_vret dH_offer_60 rfl ?_
        have e : hOffer I u v r t = I := by
          unfold hOffer
          (repeat' split) <;> first | rfl | contradiction
        rw [e] at hQ
        exact hQ
      · refine mx_iload dH_offer_28 rfl ?_
        refine mx_aload_n dH_offer_30 rfl ?_
        refine mx_get 4 1 dH_offer_31 fgH_16 rfl rfl ?_
        refine mx_iload_n dH_offer_34 rfl ?_
        refine mx_aald dH_offer_35 rfl (vp_in_nI hu (by decide)) (eg_at hu) ?_
        refine mx_iload_n dH_offer_36 rfl ?_
        refine mx_iald dH_offer_37 (pic_row (by omega) (by omega)) (vp_in_nI hv (by decide)) ?_
        rw [nI_clamp (by omega)]
        refine mx_icmp_le 60 dH_offer_38 rfl (fun h38 => ?_) (fun h38 => ?_)
        · refine mx_vret dH_offer_60 rfl ?_
          have e : hOffer I u v r t = I := by
            unfold hOffer
            (repeat' split) <;> first | rfl | contradiction
          rw [e] at hQ
          exact hQ
        · have e : hOffer I u v r t = hPut I u v r t := by
            unfold hOffer
            (repeat' split) <;> first | rfl | contradiction
          rw [e] at hQ
          exact hset _ hQ
def gbf (w : Nat) : Nat := if 24 ≤ w then 0 else w / 2 + 1
theorem gbf_nat {w : Nat} (h : w < 100) : qP_gateBefore (nI w) = nI (gbf w) := by
  unfold qP_gateBefore gbf
  rw [show (24 : Int32) = nI 24 from rfl]
  by_cases e : 24 ≤ w
  · rw [if_pos e, if_pos (nI_le (a := 24) e (by omega))]; rfl
  · rw [if_neg e, if_neg (nI_ge (b := 24) (by omega) (by decide)), show (2 : Int32) = nI 2 from rfl, pk_div (by omega) (by decide) (by decide), nI_1]
theorem gbf_le {w : Nat} (h : w < 27) : gbf w ≤ 12 := by unfold gbf; split <;> omega
def hWire (w : Nat) (I : Nat → Nat → Int32) : Nat → Nat → Int32 := if bh (I 12) w = 0 then I else if gbf w = 0 then I else hOffer I (bh (I 12) w).toNatClampNeg (gbf w) (I 13 w) (I 11 (bh (I 12) w).toNatClampNeg + I 11 (gbf w))
theorem cH_offerWire {cnt : Int32} {fil : Int32} {I : Nat → Nat → Int32} {L : Nat → Nat → Int64} {Q : mx_O → List va_E → Prop} {w : Nat} (hw : w < 27) (hsr : I 12 w ≤ 12) (hQ : Q (.inl none) (pic cnt fil (hWire w I) L)) : mx_W mx_K mT mCl jH_offerWire (mR 2 45) 0 [.ref 5, .ref 1, .ref 2, .int (nI w), .retAddr 0, .retAddr 0] [] (pic cnt fil I L) Q := by
  obtain ⟨u, hu, eu⟩ := vp_in_of (bh_in hsr) (by decide)
  have hv := gbf_le hw
  have hcl : (bh (I 12) w).toNatClampNeg = u := by rw [eu, nI_clamp (by omega)]
  have hwi : vp_in (nI w) 27 := vp_in_nI hw (by decide)
  unfold hWire at hQ
  rw [hcl] at hQ
  refine mx_aload_n dH_offerWire_0 rfl ?_
  refine mx_iload_n dH_offerWire_1 rfl ?_
  refine mx_V1 (R' := (mR 1 24)) [_] _ dH_offerWire_2 rfl mT_G jP_gateBehind_ok jP_gateBehind_v lkH_47 ⟨rfl, rfl, Nat.le_of_ble_eq_true rfl, Nat.le_of_ble_eq_true rfl⟩ rfl rfl (Nat.le_of_ble_eq_true rfl) (Nat.le_of_ble_eq_true rfl) rfl rfl rfl (fun Qc qc => cP_gateBehind pic_P hwi qc) ?_
  rw [gb_nat (by omega), eu]
  refine mx_istore dH_offerWire_5 (Nat.le_of_ble_eq_true rfl) rfl ?_
  refine mx_aload_n dH_offerWire_7 rfl ?_
  refine mx_iload_n dH_offerWire_8 rfl ?_
  refine mx_V1 (R' := (mR 0 0)) [_] _ dH_offerWire_9 rfl mT_G jP_gateBefore_ok jP_gateBefore_v lkH_51 ⟨rfl, rfl, Nat.le_of_ble_eq_true rfl, Nat.le_of_ble_eq_true rfl⟩ rfl rfl (Nat.le_of_ble_eq_true rfl) (Nat.le_of_ble_eq_true rfl) rfl rfl rfl (fun Qc qc => cP_gateBefore qc) ?_
  rw [gbf_nat (by omega)]
  refine mx_istore dH_offerWire_12 (Nat.le_of_ble_eq_true rfl) rfl ?_
  refine mx_iload dH_offerWire_14 rfl ?_
  refine mx_if_eq 52 dH_offerWire_16 rfl (fun h16 => ?_) (fun h16 => ?_)
  · refine mx_vret dH_offerWire_52 rfl ?_
    rw [if_pos (by rw [eu]; exact h16)] at hQ
    exact hQ
  · refine mx_iload dH_offerWire_19 rfl ?_
    refine mx_if_eq 52 dH_offerWire_21 rfl (fun h21 => ?_) (fun h21 => ?_)
    · refine mx_vret dH_offerWire_52 rfl ?_
      rw [if_neg (by rw [eu]; exact h16), if_pos ((nI_eq (b := 0) (by omega) (by decide)).mp h21)] at hQ
      exact hQ
    · refine mx_aload_n dH_offerWire_24 rfl ?_
      refine mx_iload dH_offerWire_25 rfl ?_
      refine mx_iload dH_offerWire_27 rfl ?_
      refine mx_aload_n dH_offerWire_29 rfl ?_
      refine mx_iload_n dH_offerWire_30 rfl ?_
      refine mx_V1 (R' := (mR 0 0)) [_] _ dH_offerWire_31 rfl mT_G jB_length_ok jB_length_v lkH_54 ⟨rfl, rfl, Nat.le_of_ble_eq_true rfl, Nat.le_of_ble_eq_true rfl⟩ rfl rfl (Nat.le_of_ble_eq_true rfl) (Nat.le_of_ble_eq_true rfl) rfl rfl rfl (fun Qc qc => cB_length pic_B hwi qc) ?_
      rw [nI_clamp (by omega)]
      refine mx_aload_n dH_offerWire_34 rfl ?_
      refine mx_get 1 2 dH_offerWire_35 fgH_25 rfl rfl ?_
      refine mx_iload dH_offerWire_38 rfl ?_
      refine mx_iald dH_offerWire_40 rfl (vp_in_nI hu (by decide)) ?_
      rw [nI_clamp (by omega)]
      refine mx_aload_n dH_offerWire_41 rfl ?_
      refine mx_get 1 2 dH_offerWire_42 fgH_25 rfl rfl ?_
      refine mx_iload dH_offerWire_45 rfl ?_
      refine mx_iald dH_offerWire_47 rfl (vp_in_nI (by omega) (by decide)) ?_
      rw [nI_clamp (by omega)]
      refine mx_iadd dH_offerWire_48 ?_
      refine mx_V1 (R' := (mR 0 0)) [_, _, _, _] _ dH_offerWire_49 rfl mT_G jH_offer_ok jH_offer_v lkH_29 ⟨rfl, rfl, Nat.le_of_ble_eq_true rfl, Nat.le_of_ble_eq_true rfl⟩ rfl rfl (Nat.le_of_ble_eq_true rfl) (Nat.le_of_ble_eq_true rfl) rfl rfl rfl (fun Qc qc => cH_offer hu (by omega) qc) ?_
      refine mx_vret dH_offerWire_52 rfl ?_
      rw [if_neg (by rw [eu]; exact h16), if_neg (fun e => h21 (by rw [e]; rfl))] at hQ
      exact hQ
def hOv (I : Nat → Nat → Int32) (u m v : Nat) : Nat → Nat → Int32 := if I (26 + m) v = -1 then I else hOffer I u v (I (26 + u) m + I (26 + m) v) (I (39 + u) m + I (39 + m) v - I 11 m)
def hOver (c : Nat) (u m : Nat) (I : Nat → Nat → Int32) : Nat → Nat → Int32 := if ¬ I (26 + u) m = -1 then lp (fun i I => hOv I u m (i + 1)) c I else I
theorem cH_offerOver {c : Nat} {fil : Int32} {I : Nat → Nat → Int32} {L : Nat → Nat → Int64} {Q : mx_O → List va_E → Prop} (hc : c ≤ 12) {u m : Nat} (hu : u < 13) (hm : m < 13) (hQ : Q (.inl none) (pic (nI c) fil (hOver c u m I) L)) : mx_W mx_K mT mCl jH_offerOver (mR 1 25) 0 [.ref 5, .ref 1, .int (nI u), .int (nI m), .retAddr 0, .retAddr 0] [] (pic (nI c) fil I L) Q := by
  unfold hOver at hQ
  have hloop : ∀ J0 : Nat → Nat → Int32, Q (.inl none) (pic (nI c) fil (lp (fun i I => hOv I u m (i + 1)) c J0) L) → ∀ i, i ≤ c → mx_W mx_K mT mCl jH_offerOver (mR 1 25) 16 [.ref 5, .ref 1, .int (nI u), .int (nI m), .int (nI (i + 1)), .retAddr 0] [] (pic (nI c) fil (lp (fun i I => hOv I u m (i + 1)) i J0) L) Q := by
    intro J0 hq
    refine lp_down ?_ ?_
    · refine mx_iload dH_offerOver_16 rfl ?_
      refine mx_aload_n dH_offerOver_18 rfl ?_
      refine mx_get 1 0 dH_offerOver_19 fgH_19 rfl rfl ?_
      refine mx_icmp_gt 98 dH_offerOver_22 rfl (fun h22 => ?_) (fun h22 => ?_)
      rotate_left
      · exact absurd (nI_lt (Nat.lt_succ_self c) (by omega)) h22
      refine mx_vret dH_offerOver_98 rfl ?_
      exact hq
    · intro i hi ih
      have ih : mx_W mx_K mT mCl jH_offerOver (mR 1 25) 16 [.ref 5, .ref 1, .int (nI u), .int (nI m), .int (nI (i + 1 + 1)), .retAddr 0] [] (pic (nI c) fil (hOv (lp (fun i I => hOv I u m (i + 1)) i J0) u m (i + 1)) L) Q := ih
      generalize lp (fun i I => hOv I u m (i + 1)) i J0 = G at ih ⊢
      unfold hOv at ih
      refine mx_iload dH_offerOver_16 rfl ?_
      refine mx_aload_n dH_offerOver_18 rfl ?_
      refine mx_get 1 0 dH_offerOver_19 fgH_19 rfl rfl ?_
      refine mx_icmp_gt 98 dH_offerOver_22 rfl (fun h22 => ?_) (fun h22 => ?_)
      · exact absurd h22 (nI_nlt (by omega) (by omega))
      refine mx_aload_n dH_offerOver_25 rfl ?_
      refine mx_get 4 0 dH_offerOver_26 fgH_11 rfl rfl ?_
      refine mx_iload_n dH_offerOver_29 rfl ?_
      refine mx_aald dH_offerOver_30 rfl (vp_in_nI hm (by decide)) (eg_at hm) ?_
      refine mx_iload dH_offerOver_31 rfl ?_
      refine mx_iald dH_offerOver_33 (pic_row (by omega) (by omega)) (vp_in_nI (by omega) (by decide)) ?_
      rw [nI_clamp (by omega)]
      refine mx_iconst (-1) dH_offerOver_34 (by decide) ?_
      refine mx_icmp_eq 92 dH_offerOver_35 rfl (fun h35 => ?_) (fun h35 => ?_)
      · first | rw [if_pos h35] at ih | rw [if_neg h35] at ih
        refine mx_iinc dH_offerOver_92 rfl (mx_inc _) (Nat.le_of_ble_eq_true rfl) rfl ?_
        refine mx_goto 16 dH_offerOver_95 rfl ?_
        refine mx_drop 5 ?_
        exact ih
      · refine mx_aload_n dH_offerOver_38 rfl ?_
        refine mx_get 4 1 dH_offerOver_39 fgH_16 rfl rfl ?_
        refine mx_iload_n dH_offerOver_42 rfl ?_
        refine mx_aald dH_offerOver_43 rfl (vp_in_nI hu (by decide)) (eg_at hu) ?_
        refine mx_iload_n dH_offerOver_44 rfl ?_
        refine mx_iald dH_offerOver_45 (pic_row (by omega) (by omega)) (vp_in_nI hm (by decide)) ?_
        rw [nI_clamp (by omega)]
        refine mx_aload_n dH_offerOver_46 rfl ?_
        refine mx_get 4 1 dH_offerOver_47 fgH_16 rfl rfl ?_
        refine mx_iload_n dH_offerOver_50 rfl ?_
        refine mx_aald dH_offerOver_51 rfl (vp_in_nI hm (by decide)) (eg_at hm) ?_
        refine mx_iload dH_offerOver_52 rfl ?_
        refine mx_iald dH_offerOver_54 (pic_row (by omega) (by omega)) (vp_in_nI (by omega) (by decide)) ?_
        rw [nI_clamp (by omega)]
        refine mx_iadd dH_offerOver_55 ?_
        refine mx_aload_n dH_offerOver_56 rfl ?_
        refine mx_get 1 2 dH_offerOver_57 fgH_25 rfl rfl ?_
        refine mx_iload_n dH_offerOver_60 rfl ?_
        refine mx_iald dH_offerOver_61 rfl (vp_in_nI hm (by decide)) ?_
        rw [nI_clamp (by omega)]
        refine mx_isub dH_offerOver_62 ?_
        refine mx_istore dH_offerOver_63 (Nat.le_of_ble_eq_true rfl) rfl ?_
        refine mx_aload_n dH_offerOver_65 rfl ?_
        refine mx_iload_n dH_offerOver_66 rfl ?_
        refine mx_iload dH_offerOver_67 rfl ?_
        refine mx_aload_n dH_offerOver_69 rfl ?_
        refine mx_get 4 0 dH_offerOver_70 fgH_11 rfl rfl ?_
        refine mx_iload_n dH_offerOver_73 rfl ?_
        refine mx_aald dH_offerOver_74 rfl (vp_in_nI hu (by decide)) (eg_at hu) ?_
        refine mx_iload_n dH_offerOver_75 rfl ?_
        refine mx_iald dH_offerOver_76 (pic_row (by omega) (by omega)) (vp_in_nI hm (by decide)) ?_
        rw [nI_clamp (by omega)]
        refine mx_aload_n dH_offerOver_77 rfl ?_
        refine mx_get 4 0 dH_offerOver_78 fgH_11 rfl rfl ?_
        refine mx_iload_n dH_offerOver_81 rfl ?_
        refine mx_aald dH_offerOver_82 rfl (vp_in_nI hm (by decide)) (eg_at hm) ?_
        refine mx_iload dH_offerOver_83 rfl ?_
        refine mx_iald dH_offerOver_85 (pic_row (by omega) (by omega)) (vp_in_nI (by omega) (by decide)) ?_
        rw [nI_clamp (by omega)]
        refine mx_iadd dH_offerOver_86 ?_
        refine mx_iload dH_offerOver_87 rfl ?_
        refine mx_V1 (R' := (mR 0 0)) [_, _, _, _] _ dH_offerOver_89 rfl mT_G jH_offer_ok jH_offer_v lkH_29 ⟨rfl, rfl, Nat.le_of_ble_eq_true rfl, Nat.le_of_ble_eq_true rfl⟩ rfl rfl (Nat.le_of_ble_eq_true rfl) (Nat.le_of_ble_eq_true rfl) rfl rfl rfl (fun Qc qc => cH_offer hu (by omega) qc) ?_
        first | rw [if_pos h35] at ih | rw [if_neg h35] at ih
        refine mx_iinc dH_offerOver_92 rfl (mx_inc _) (Nat.le_of_ble_eq_true rfl) rfl ?_
        refine mx_goto 16 dH_offerOver_95 rfl ?_
        refine mx_drop 5 ?_
        exact ih
  refine mx_aload_n dH_offerOver_0 rfl ?_
  refine mx_get 4 0 dH_offerOver_1 fgH_11 rfl rfl ?_
  refine mx_iload_n dH_offerOver_4 rfl ?_
  refine mx_aald dH_offerOver_5 rfl (vp_in_nI hu (by decide)) (eg_at hu) ?_
  refine mx_iload_n dH_offerOver_6 rfl ?_
  refine mx_iald dH_offerOver_7 (pic_row (by omega) (by omega)) (vp_in_nI hm (by decide)) ?_
  rw [nI_clamp (by omega)]
  refine mx_iconst (-1) dH_offerOver_8 (by decide) ?_
  refine mx_icmp_ne 13 dH_offerOver_9 rfl (fun h9 => ?_) (fun h9 => ?_)
  · refine mx_iconst (1) dH_offerOver_13 (by decide) ?_
    refine mx_istore dH_offerOver_14 (Nat.le_of_ble_eq_true rfl) rfl ?_
    rw [if_pos h9] at hQ
    exact hloop I hQ 0 (Nat.zero_le _)
  · refine mx_vret dH_offerOver_12 rfl ?_
    rw [if_neg (fun e => e h9)] at hQ
    exact hQ
theorem lp_zero {α : Type} (f : Nat → α → α) (s : α) : lp f 0 s = s := rfl
theorem lp_keep {α : Type} {f : Nat → α → α} {P : α → Prop} {s : α} (h0 : P s) : ∀ n, (∀ i t, i < n → P t → P (f i t)) → P (lp f n s)
  | 0, _ => h0
  | n + 1, hs => hs n _ (Nat.lt_succ_self n) (lp_keep h0 n (fun i t hi => hs i t (by omega)))
theorem hPut_low {I : Nat → Nat → Int32} {u v k : Nat} {r t : Int32} (h : k < 26) : hPut I u v r t k = I k := by
  unfold hPut
  rw [upI_ne _ _ (by omega), upI_ne _ _ (by omega)]
theorem hOffer_low {I : Nat → Nat → Int32} {u v k : Nat} {r t : Int32} (h : k < 26) : hOffer I u v r t k = I k := by
  unfold hOffer
  (repeat' split) <;> first | rfl | exact hPut_low h
theorem hWire_low {I : Nat → Nat → Int32} {w k : Nat} (h : k < 26) : hWire w I k = I k := by
  unfold hWire
  (repeat' split) <;> first | rfl | exact hOffer_low h
theorem hOver_low {I : Nat → Nat → Int32} {c u m k : Nat} (h : k < 26) : hOver c u m I k = I k := by
  unfold hOver
  split
  · refine lp_keep (P := fun (G : Nat → Nat → Int32) => G k = I k) rfl c (fun i t _ ht => ?_)
    show hOv t u m (i + 1) k = I k
    unfold hOv
    split
    · exact ht
    · rw [hOffer_low h]; exact ht
  · rfl
def hI1 (c u : Nat) (G : Nat → Nat → Int32) : Nat → Nat → Int32 := lp (fun i I => hPut I u (i + 1) (-1) (-1)) c G
def hI2 (c u : Nat) (G : Nat → Nat → Int32) : Nat → Nat → Int32 := hOffer (hI1 c u G) u u 0 (hI1 c u G 11 u)
theorem hI1_low {G : Nat → Nat → Int32} {c u k : Nat} (h : k < 26) : hI1 c u G k = G k := lp_keep (P := fun (I : Nat → Nat → Int32) => I k = G k) rfl c (fun i t _ ht => by rw [hPut_low h]; exact ht)
theorem hI2_low {G : Nat → Nat → Int32} {c u k : Nat} (h : k < 26) : hI2 c u G k = G k := by unfold hI2; rw [hOffer_low h, hI1_low h]
def hM1 (c : Nat) (I : Nat → Nat → Int32) : Nat → Nat → Int32 := lp (fun i G => hI2 c (i + 1) G) c I
def hM2 (c : Nat) (I : Nat → Nat → Int32) : Nat → Nat → Int32 := lp hWire 27 (hM1 c I)
def hM3 (c m : Nat) (I : Nat → Nat → Int32) : Nat → Nat → Int32 := lp (fun i G => hOver c (i + 1) m G) c I
/-- what Paths.measure leaves -/
def hMeas (c : Nat) (I : Nat → Nat → Int32) : Nat → Nat → Int32 := lp (fun m G => hM3 c (m + 1) G) c (hM2 c I)
theorem hM1_low {I : Nat → Nat → Int32} {c k : Nat} (h : k < 26) : hM1 c I k = I k := lp_keep (P := fun (G : Nat → Nat → Int32) => G k = I k) rfl c (fun i t _ ht => by rw [hI2_low h]; exact ht)
theorem hM2_low {I : Nat → Nat → Int32} {c k : Nat} (h : k < 26) : hM2 c I k = I k := by
  unfold hM2
  exact lp_keep (P := fun (G : Nat → Nat → Int32) => G k = I k) (f := hWire) (s := hM1 c I) (hM1_low h) 27 (fun i t _ ht => by rw [hWire_low h]; exact ht)
theorem hM3_low {I : Nat → Nat → Int32} {c m k : Nat} (h : k < 26) : hM3 c m I k = I k := lp_keep (P := fun (G : Nat → Nat → Int32) => G k = I k) rfl c (fun i t _ ht => by rw [hOver_low h]; exact ht)
theorem hMeas_low {I : Nat → Nat → Int32} {c k : Nat} (h : k < 26) : hMeas c I k = I k := lp_keep (P := fun (G : Nat → Nat → Int32) => G k = I k) (hM2_low h) c (fun i t _ ht => by rw [hM3_low h]; exact ht)
theorem cH_measure {c : Nat} {fil : Int32} {I : Nat → Nat → Int32} {L : Nat → Nat → Int64} {Q : mx_O → List va_E → Prop} (hc : c ≤ 12) (hsr : ∀ w, w < 27 → I 12 w ≤ 12) (hQ : Q (.inl none) (pic (nI c) fil (hMeas c I) L)) : mx_W mx_K mT mCl jH_measure (mR 3 70) 0 [.ref 5, .ref 1, .ref 2, .retAddr 0, .retAddr 0] [] (pic (nI c) fil I L) Q := by
  have l3i : ∀ (m : Nat) (G : Nat → Nat → Int32), m < c → mx_W mx_K mT mCl jH_measure (mR 3 70) 124 [.ref 5, .ref 1, .ref 2, .int (nI (m + 1)), .int (nI (c + 1))] [] (pic (nI c) fil (hM3 c (m + 1) G) L) Q → ∀ i, i ≤ c → mx_W mx_K mT mCl jH_measure (mR 3 70) 101 [.ref 5, .ref 1, .ref 2, .int (nI (m + 1)), .int (nI (i + 1))] [] (pic (nI c) fil (lp (fun i G => hOver c (i + 1) (m + 1) G) i G) L) Q := by
    intro m G hm hk
    refine lp_down ?_ ?_
    · refine mx_iload dH_measure_101 rfl ?_
      refine mx_aload_n dH_measure_103 rfl ?_
      refine mx_get 1 0 dH_measure_104 fgH_19 rfl rfl ?_
      refine mx_icmp_gt 124 dH_measure_107 rfl (fun h107 => ?_) (fun h107 => ?_)
      rotate_left
      · exact absurd (nI_lt (Nat.lt_succ_self c) (by omega)) h107
      exact hk
    · intro i hi ih
      refine mx_iload dH_measure_101 rfl ?_
      refine mx_aload_n dH_measure_103 rfl ?_
      refine mx_get 1 0 dH_measure_104 fgH_19 rfl rfl ?_
      refine mx_icmp_gt 124 dH_measure_107 rfl (fun h107 => ?_) (fun h107 => ?_)
      · exact absurd h107 (nI_nlt (by omega) (by omega))
      refine mx_aload_n dH_measure_110 rfl ?_
      refine mx_aload_n dH_measure_111 rfl ?_
      refine mx_iload dH_measure_112 rfl ?_
      refine mx_iload_n dH_measure_114 rfl ?_
      refine mx_V1 (R' := (mR 1 25)) [_, _, _] _ dH_measure_115 rfl mT_G jH_offerOver_ok jH_offerOver_v lkH_37 ⟨rfl, rfl, Nat.le_of_ble_eq_true rfl, Nat.le_of_ble_eq_true rfl⟩ rfl rfl (Nat.le_of_ble_eq_true rfl) (Nat.le_of_ble_eq_true rfl) rfl rfl rfl (fun Qc qc => cH_offerOver hc (by omega) (by omega) qc) ?_
      refine mx_iinc dH_measure_118 rfl (mx_inc _) (Nat.le_of_ble_eq_true rfl) rfl ?_
      refine mx_goto 101 dH_measure_121 rfl ?_
      exact ih
  have l3 : ∀ i, i ≤ c → mx_W mx_K mT mCl jH_measure (mR 3 70) 90 [.ref 5, .ref 1, .ref 2, .int (nI (i + 1)), .retAddr 0] [] (pic (nI c) fil (lp (fun m G => hM3 c (m + 1) G) i (hM2 c I)) L) Q := by
    refine lp_down ?_ ?_
    · refine mx_iload_n dH_measure_90 rfl ?_
      refine mx_aload_n dH_measure_91 rfl ?_
      refine mx_get 1 0 dH_measure_92 fgH_19 rfl rfl ?_
      refine mx_icmp_gt 130 dH_measure_95 rfl (fun h95 => ?_) (fun h95 => ?_)
      rotate_left
      · exact absurd (nI_lt (Nat.lt_succ_self c) (by omega)) h95
      refine mx_vret dH_measure_130 rfl ?_
      exact hQ
    · intro i hi ih
      refine mx_iload_n dH_measure_90 rfl ?_
      refine mx_aload_n dH_measure_91 rfl ?_
      refine mx_get 1 0 dH_measure_92 fgH_19 rfl rfl ?_
      refine mx_icmp_gt 130 dH_measure_95 rfl (fun h95 => ?_) (fun h95 => ?_)
      · exact absurd h95 (nI_nlt (by omega) (by omega))
      refine mx_iconst (1) dH_measure_98 (by decide) ?_
      refine mx_istore dH_measure_99 (Nat.le_of_ble_eq_true rfl) rfl ?_
      refine l3i i _ hi ?_ 0 (Nat.zero_le _)
      refine mx_iinc dH_measure_124 rfl (mx_inc _) (Nat.le_of_ble_eq_true rfl) rfl ?_
      refine mx_goto 90 dH_measure_127 rfl ?_
      refine mx_drop 4 ?_
      exact ih
  have l2 : ∀ i, i ≤ 27 → mx_W mx_K mT mCl jH_measure (mR 3 70) 69 [.ref 5, .ref 1, .ref 2, .int (nI i), .retAddr 0] [] (pic (nI c) fil (lp hWire i (hM1 c I)) L) Q := by
    refine lp_down ?_ ?_
    · refine mx_iload_n dH_measure_69 rfl ?_
      refine mx_bipush (27) dH_measure_70 (by decide) ?_
      refine mx_icmp_ge 88 dH_measure_72 rfl (fun h72 => ?_) (fun h72 => ?_)
      rotate_left
      · exact absurd (show (27 : Int32) ≤ nI 27 by decide) h72
      refine mx_iconst (1) dH_measure_88 (by decide) ?_
      refine mx_istore_n dH_measure_89 (Nat.le_of_ble_eq_true rfl) rfl ?_
      have l30 := l3 0 (Nat.zero_le _)
      rw [lp_zero] at l30
      unfold hM2 at l30
      exact l30
    · intro i hi ih
      have hlow : (lp hWire i (hM1 c I)) 12 = I 12 := lp_keep (P := fun (G : Nat → Nat → Int32) => G 12 = I 12) (hM1_low (by decide)) i (fun j t _ ht => by rw [hWire_low (by decide)]; exact ht)
      refine mx_iload_n dH_measure_69 rfl ?_
      refine mx_bipush (27) dH_measure_70 (by decide) ?_
      refine mx_icmp_ge 88 dH_measure_72 rfl (fun h72 => ?_) (fun h72 => ?_)
      · exact absurd h72 (nI_ge (b := 27) hi (by decide))
      refine mx_aload_n dH_measure_75 rfl ?_
      refine mx_aload_n dH_measure_76 rfl ?_
      refine mx_aload_n dH_measure_77 rfl ?_
      refine mx_iload_n dH_measure_78 rfl ?_
      refine mx_V1 (R' := (mR 2 45)) [_, _, _] _ dH_measure_79 rfl mT_G jH_offerWire_ok jH_offerWire_v lkH_33 ⟨rfl, rfl, Nat.le_of_ble_eq_true rfl, Nat.le_of_ble_eq_true rfl⟩ rfl rfl (Nat.le_of_ble_eq_true rfl) (Nat.le_of_ble_eq_true rfl) rfl rfl rfl (fun Qc qc => cH_offerWire hi (by rw [hlow]; exact hsr i hi) qc) ?_
      refine mx_iinc dH_measure_82 rfl (mx_inc _) (Nat.le_of_ble_eq_true rfl) rfl ?_
      refine mx_goto 69 dH_measure_85 rfl ?_
      exact ih
  have l1i : ∀ (u : Nat) (G : Nat → Nat → Int32), u < c → mx_W mx_K mT mCl jH_measure (mR 3 70) 48 [.ref 5, .ref 1, .ref 2, .int (nI (u + 1)), .int (nI (c + 1))] [] (pic (nI c) fil (hI1 c (u + 1) G) L) Q → ∀ i, i ≤ c → mx_W mx_K mT mCl jH_measure (mR 3 70) 13 [.ref 5, .ref 1, .ref 2, .int (nI (u + 1)), .int (nI (i + 1))] [] (pic (nI c) fil (lp (fun i I => hPut I (u + 1) (i + 1) (-1) (-1)) i G) L) Q := by
    intro u G hu hk
    have hu : u + 1 < 13 := by omega
    refine lp_down ?_ ?_
    · refine mx_iload dH_measure_13 rfl ?_
      refine mx_aload_n dH_measure_15 rfl ?_
      refine mx_get 1 0 dH_measure_16 fgH_19 rfl rfl ?_
      refine mx_icmp_gt 48 dH_measure_19 rfl (fun h19 => ?_) (fun h19 => ?_)
      rotate_left
      · exact absurd (nI_lt (Nat.lt_succ_self c) (by omega)) h19
      exact hk
    · intro i hi ih
      refine mx_iload dH_measure_13 rfl ?_
      refine mx_aload_n dH_measure_15 rfl ?_
      refine mx_get 1 0 dH_measure_16 fgH_19 rfl rfl ?_
      refine mx_icmp_gt 48 dH_measure_19 rfl (fun h19 => ?_) (fun h19 => ?_)
      · exact absurd h19 (nI_nlt (by omega) (by omega))
      refine mx_aload_n dH_measure_22 rfl ?_
      refine mx_get 4 0 dH_measure_23 fgH_11 rfl rfl ?_
      refine mx_iload_n dH_measure_26 rfl ?_
      refine mx_aald dH_measure_27 rfl (vp_in_nI hu (by decide)) (eg_at hu) ?_
      refine mx_iload dH_measure_28 rfl ?_
      refine mx_iconst (-1) dH_measure_30 (by decide) ?_
      refine mx_iast dH_measure_31 (pic_row (by omega) (by omega)) (vp_in_nI (by omega) (by decide)) ?_
      rw [nI_clamp (by omega)]
      refine mx_eqs rfl rfl rfl (pic_srow (by omega) (by omega) _) ?_
      refine mx_aload_n dH_measure_32 rfl ?_
      refine mx_get 4 1 dH_measure_33 fgH_16 rfl rfl ?_
      refine mx_iload_n dH_measure_36 rfl ?_
      refine mx_aald dH_measure_37 rfl (vp_in_nI hu (by decide)) (eg_at hu) ?_
      refine mx_iload dH_measure_38 rfl ?_
      refine mx_iconst (-1) dH_measure_40 (by decide) ?_
      refine mx_iast dH_measure_41 (pic_row (by omega) (by omega)) (vp_in_nI (by omega) (by decide)) ?_
      rw [nI_clamp (by omega), pic_srow (by omega) (by omega), upI_ne _ _ (by omega)]
      refine mx_iinc dH_measure_42 rfl (mx_inc _) (Nat.le_of_ble_eq_true rfl) rfl ?_
      refine mx_goto 13 dH_measure_45 rfl ?_
      exact ih
  have l1 : ∀ i, i ≤ c → mx_W mx_K mT mCl jH_measure (mR 3 70) 2 [.ref 5, .ref 1, .ref 2, .int (nI (i + 1)), .retAddr 0] [] (pic (nI c) fil (lp (fun i G => hI2 c (i + 1) G) i I) L) Q := by
    refine lp_down ?_ ?_
    · refine mx_iload_n dH_measure_2 rfl ?_
      refine mx_aload_n dH_measure_3 rfl ?_
      refine mx_get 1 0 dH_measure_4 fgH_19 rfl rfl ?_
      refine mx_icmp_gt 67 dH_measure_7 rfl (fun h7 => ?_) (fun h7 => ?_)
      rotate_left
      · exact absurd (nI_lt (Nat.lt_succ_self c) (by omega)) h7
      refine mx_iconst (0) dH_measure_67 (by decide) ?_
      refine mx_istore_n dH_measure_68 (Nat.le_of_ble_eq_true rfl) rfl ?_
      exact l2 0 (Nat.zero_le _)
    · intro i hi ih
      have ih : mx_W mx_K mT mCl jH_measure (mR 3 70) 2 [.ref 5, .ref 1, .ref 2, .int (nI (i + 1 + 1)), .retAddr 0] [] (pic (nI c) fil (hI2 c (i + 1) (lp (fun i G => hI2 c (i + 1) G) i I)) L) Q := ih
      generalize lp (fun i G => hI2 c (i + 1) G) i I = G at ih ⊢
      refine mx_iload_n dH_measure_2 rfl ?_
      refine mx_aload_n dH_measure_3 rfl ?_
      refine mx_get 1 0 dH_measure_4 fgH_19 rfl rfl ?_
      refine mx_icmp_gt 67 dH_measure_7 rfl (fun h7 => ?_) (fun h7 => ?_)
      · exact absurd h7 (nI_nlt (by omega) (by omega))
      refine mx_iconst (1) dH_measure_10 (by decide) ?_
      refine mx_istore dH_measure_11 (Nat.le_of_ble_eq_true rfl) rfl ?_
      refine l1i i G hi ?_ 0 (Nat.zero_le _)
      refine mx_aload_n dH_measure_48 rfl ?_
      refine mx_iload_n dH_measure_49 rfl ?_
      refine mx_iload_n dH_measure_50 rfl ?_
      refine mx_iconst (0) dH_measure_51 (by decide) ?_
      refine mx_aload_n dH_measure_52 rfl ?_
      refine mx_get 1 2 dH_measure_53 fgH_25 rfl rfl ?_
      refine mx_iload_n dH_measure_56 rfl ?_
      refine mx_iald dH_measure_57 rfl (vp_in_nI (by omega) (by decide)) ?_
      rw [nI_clamp (by omega)]
      refine mx_V1 (R' := (mR 0 0)) [_, _, _, _] _ dH_measure_58 rfl mT_G jH_offer_ok jH_offer_v lkH_29 ⟨rfl, rfl, Nat.le_of_ble_eq_true rfl, Nat.le_of_ble_eq_true rfl⟩ rfl rfl (Nat.le_of_ble_eq_true rfl) (Nat.le_of_ble_eq_true rfl) rfl rfl rfl (fun Qc qc => cH_offer (by omega) (by omega) qc) ?_
      refine mx_iinc dH_measure_61 rfl (mx_inc _) (Nat.le_of_ble_eq_true rfl) rfl ?_
      refine mx_goto 2 dH_measure_64 rfl ?_
      refine mx_drop 4 ?_
      exact ih
  refine mx_iconst (1) dH_measure_0 (by decide) ?_
  refine mx_istore_n dH_measure_1 (Nat.le_of_ble_eq_true rfl) rfl ?_
  exact l1 0 (Nat.zero_le _)
def hLu1 (I : Nat → Nat → Int32) (u v : Nat) (x : Int32) : Int32 := if ¬ I (26 + u) v = 0 then x else if x < I (39 + u) v then I (39 + u) v else x
def hLu (c : Nat) (I : Nat → Nat → Int32) : Int32 := lp (fun u x => lp (fun v x => hLu1 I (u + 1) (v + 1) x) c x) c 0
theorem cH_longestUnregistered {c : Nat} {cnt : Int32} {fil : Int32} {I : Nat → Nat → Int32} {L : Nat → Nat → Int64} {Q : mx_O → List va_E → Prop} (hc : c ≤ 12) (hQ : Q (.inl (some (.int (hLu c I)))) (pic cnt fil I L)) : mx_W mx_K mT mCl jH_longestUnregistered (mR 1 24) 0 [.ref 5, .int (nI c), .retAddr 0, .retAddr 0, .retAddr 0] [] (pic cnt fil I L) Q := by
  have li : ∀ (u : Nat) (x : Int32), u < c → mx_W mx_K mT mCl jH_longestUnregistered (mR 1 24) 50 [.ref 5, .int (nI c), .int (lp (fun v x => hLu1 I (u + 1) (v + 1) x) c x), .int (nI (u + 1)), .int (nI (c + 1))] [] (pic cnt fil I L) Q → ∀ i, i ≤ c → mx_W mx_K mT mCl jH_longestUnregistered (mR 1 24) 12 [.ref 5, .int (nI c), .int (lp (fun v x => hLu1 I (u + 1) (v + 1) x) i x), .int (nI (u + 1)), .int (nI (i + 1))] [] (pic cnt fil I L) Q := by
    intro u x hu hk
    have hu : u + 1 < 13 := by omega
    refine lp_down ?_ ?_
    · refine mx_iload dH_longestUnregistered_12 rfl ?_
      refine mx_iload_n dH_longestUnregistered_14 rfl ?_
      refine mx_icmp_gt 50 dH_longestUnregistered_15 rfl (fun h15 => ?_) (fun h15 => ?_)
      rotate_left
      · exact absurd (nI_lt (Nat.lt_succ_self c) (by omega)) h15
      exact hk
    · intro i hi ih
      have ih : mx_W mx_K mT mCl jH_longestUnregistered (mR 1 24) 12 [.ref 5, .int (nI c), .int (hLu1 I (u + 1) (i + 1) (lp (fun v x => hLu1 I (u + 1) (v + 1) x) i x)), .int (nI (u + 1)), .int (nI (i + 1 + 1))] [] (pic cnt fil I L) Q := ih
      generalize lp (fun v x => hLu1 I (u + 1) (v + 1) x) i x = y at ih ⊢
      unfold hLu1 at ih
      refine mx_iload dH_longestUnregistered_12 rfl ?_
      refine mx_iload_n dH_longestUnregistered_14 rfl ?_
      refine mx_icmp_gt 50 dH_longestUnregistered_15 rfl (fun h15 => ?_) (fun h15 => ?_)
      · exact absurd h15 (nI_nlt (by omega) (by omega))
      refine mx_aload_n dH_longestUnregistered_18 rfl ?_
      refine mx_get 4 0 dH_longestUnregistered_19 fgH_11 rfl rfl ?_
      refine mx_iload_n dH_longestUnregistered_22 rfl ?_
      refine mx_aald dH_longestUnregistered_23 rfl (vp_in_nI hu (by decide)) (eg_at hu) ?_
      refine mx_iload dH_longestUnregistered_24 rfl ?_
      refine mx_iald dH_longestUnregistered_26 (pic_row (by omega) (by omega)) (vp_in_nI (by omega) (by decide)) ?_
      rw [nI_clamp (by omega)]
      refine mx_if_ne 44 dH_longestUnregistered_27 rfl (fun h27 => ?_) (fun h27 => ?_)
      · first | rw [if_pos h27] at ih | rw [if_neg (fun e => e h27)] at ih
        refine mx_iinc dH_longestUnregistered_44 rfl (mx_inc _) (Nat.le_of_ble_eq_true rfl) rfl ?_
        refine mx_goto 12 dH_longestUnregistered_47 rfl ?_
        exact ih
      · refine mx_iload_n dH_longestUnregistered_30 rfl ?_
        refine mx_aload_n dH_longestUnregistered_31 rfl ?_
        refine mx_get 4 1 dH_longestUnregistered_32 fgH_16 rfl rfl ?_
        refine mx_iload_n dH_longestUnregistered_35 rfl ?_
        refine mx_aald dH_longestUnregistered_36 rfl (vp_in_nI hu (by decide)) (eg_at hu) ?_
        refine mx_iload dH_longestUnregistered_37 rfl ?_
        refine mx_iald dH_longestUnregistered_39 (pic_row (by omega) (by omega)) (vp_in_nI (by omega) (by decide)) ?_
        rw [nI_clamp (by omega)]
        refine mx_max dH_longestUnregistered_40 (mT_3 (i := 11) rfl rfl) (mT_1 (i := 235) rfl rfl) (mT_1 (i := 17) rfl rfl) (mT_1 (i := 236) rfl rfl) (Nat.le_of_ble_eq_true rfl) (Nat.le_of_ble_eq_true rfl) ?_
        refine mx_istore_n dH_longestUnregistered_43 (Nat.le_of_ble_eq_true rfl) rfl ?_
        first | rw [if_pos h27] at ih | rw [if_neg (fun e => e h27)] at ih
        refine mx_iinc dH_longestUnregistered_44 rfl (mx_inc _) (Nat.le_of_ble_eq_true rfl) rfl ?_
        refine mx_goto 12 dH_longestUnregistered_47 rfl ?_
        exact ih
  have l1 : ∀ i, i ≤ c → mx_W mx_K mT mCl jH_longestUnregistered (mR 1 24) 4 [.ref 5, .int (nI c), .int (lp (fun u x => lp (fun v x => hLu1 I (u + 1) (v + 1) x) c x) i 0), .int (nI (i + 1)), .retAddr 0] [] (pic cnt fil I L) Q := by
    refine lp_down ?_ ?_
    · refine mx_iload_n dH_longestUnregistered_4 rfl ?_
      refine mx_iload_n dH_longestUnregistered_5 rfl ?_
      refine mx_icmp_gt 56 dH_longestUnregistered_6 rfl (fun h6 => ?_) (fun h6 => ?_)
      rotate_left
      · exact absurd (nI_lt (Nat.lt_succ_self c) (by omega)) h6
      refine mx_iload_n dH_longestUnregistered_56 rfl ?_
      refine mx_iret dH_longestUnregistered_57 rfl rfl ?_
      exact hQ
    · intro i hi ih
      refine mx_iload_n dH_longestUnregistered_4 rfl ?_
      refine mx_iload_n dH_longestUnregistered_5 rfl ?_
      refine mx_icmp_gt 56 dH_longestUnregistered_6 rfl (fun h6 => ?_) (fun h6 => ?_)
      · exact absurd h6 (nI_nlt (by omega) (by omega))
      refine mx_iconst (1) dH_longestUnregistered_9 (by decide) ?_
      refine mx_istore dH_longestUnregistered_10 (Nat.le_of_ble_eq_true rfl) rfl ?_
      refine li i _ hi ?_ 0 (Nat.zero_le _)
      refine mx_iinc dH_longestUnregistered_50 rfl (mx_inc _) (Nat.le_of_ble_eq_true rfl) rfl ?_
      refine mx_goto 4 dH_longestUnregistered_53 rfl ?_
      refine mx_drop 4 ?_
      exact ih
  refine mx_iconst (0) dH_longestUnregistered_0 (by decide) ?_
  refine mx_istore_n dH_longestUnregistered_1 (Nat.le_of_ble_eq_true rfl) rfl ?_
  refine mx_iconst (1) dH_longestUnregistered_2 (by decide) ?_
  refine mx_istore_n dH_longestUnregistered_3 (Nat.le_of_ble_eq_true rfl) rfl ?_
  exact l1 0 (Nat.zero_le _)
