/-! The reference: its picture, its small methods. -/
/-- the reference's picture: 0 the object (thrown, count); 1 kinds, 2 delays, 3 from, 4 many, 5 values, 6 running, 7 tried, 8 triedMany, 9 told, 10 labels, 11 left, 12 costs, 13 out -/
def rp (thr cnt : Int32) (I : Nat → Nat → Int32) : List va_E := [.inr (8, [.int thr, .int cnt, .ref 1, .ref 2, .ref 3, .ref 4, .ref 5, .ref 6, .ref 7, .ref 8, .ref 9, .ref 10, .ref 11, .ref 12, .ref 13]), eI 13 (I 1), eI 13 (I 2), eI 27 (I 3), eI 27 (I 4), eI 1080 (I 5), eI 1080 (I 6), eI 1080 (I 7), eI 27 (I 8), eI 13 (I 9), eI 13 (I 10), eI 13 (I 11), eI 169 (I 12), eI 13 (I 13)]
section RP
variable {thr cnt : Int32} {I : Nat → Nat → Int32}
theorem rp_thr (x : Int32) : (rp thr cnt I).set 0 (.inr (8, [.int x, .int cnt, .ref 1, .ref 2, .ref 3, .ref 4, .ref 5, .ref 6, .ref 7, .ref 8, .ref 9, .ref 10, .ref 11, .ref 12, .ref 13])) = rp x cnt I := rfl
theorem rp_cnt (x : Int32) : (rp thr cnt I).set 0 (.inr (8, [.int thr, .int x, .ref 1, .ref 2, .ref 3, .ref 4, .ref 5, .ref 6, .ref 7, .ref 8, .ref 9, .ref 10, .ref 11, .ref 12, .ref 13])) = rp thr x I := rfl
theorem rp_1 (f : Nat → Int32) : (rp thr cnt I).set 1 (eI 13 f) = rp thr cnt (upI I 1 f) := rfl
theorem rp_2 (f : Nat → Int32) : (rp thr cnt I).set 2 (eI 13 f) = rp thr cnt (upI I 2 f) := rfl
theorem rp_3 (f : Nat → Int32) : (rp thr cnt I).set 3 (eI 27 f) = rp thr cnt (upI I 3 f) := rfl
theorem rp_4 (f : Nat → Int32) : (rp thr cnt I).set 4 (eI 27 f) = rp thr cnt (upI I 4 f) := rfl
theorem rp_5 (f : Nat → Int32) : (rp thr cnt I).set 5 (eI 1080 f) = rp thr cnt (upI I 5 f) := rfl
theorem rp_6 (f : Nat → Int32) : (rp thr cnt I).set 6 (eI 1080 f) = rp thr cnt (upI I 6 f) := rfl
theorem rp_7 (f : Nat → Int32) : (rp thr cnt I).set 7 (eI 1080 f) = rp thr cnt (upI I 7 f) := rfl
theorem rp_8 (f : Nat → Int32) : (rp thr cnt I).set 8 (eI 27 f) = rp thr cnt (upI I 8 f) := rfl
theorem rp_9 (f : Nat → Int32) : (rp thr cnt I).set 9 (eI 13 f) = rp thr cnt (upI I 9 f) := rfl
theorem rp_10 (f : Nat → Int32) : (rp thr cnt I).set 10 (eI 13 f) = rp thr cnt (upI I 10 f) := rfl
theorem rp_11 (f : Nat → Int32) : (rp thr cnt I).set 11 (eI 13 f) = rp thr cnt (upI I 11 f) := rfl
theorem rp_12 (f : Nat → Int32) : (rp thr cnt I).set 12 (eI 169 f) = rp thr cnt (upI I 12 f) := rfl
theorem rp_13 (f : Nat → Int32) : (rp thr cnt I).set 13 (eI 13 f) = rp thr cnt (upI I 13 f) := rfl
end RP
def qM_outer (x : Int32) : Int32 := if -1 < x then 0 else if x < -3 then 0 else 1
theorem le2 (x : Int32) : (2 : Int32) ≤ x ↔ 1 < x := by
  rw [Int32.le_iff_toInt_le, Int32.lt_iff_toInt_lt]
  show (2 : Int) ≤ x.toInt ↔ (1 : Int) < x.toInt
  omega
def qM_place (cnt : Int32) (kd : Nat → Int32) (x y : Int32) : Int32 := if qM_outer x = 0 then (if qP_hasGate cnt x = 0 then -1 else if y < 0 then -1 else if qP_pinsOf kd x ≤ y then -1 else 2 * x - 2 + y) else if ¬ y = 0 then -1 else 23 - x
theorem cM_thrown {thr cnt : Int32} {I : Nat → Nat → Int32} {Q : mx_O → List va_E → Prop} (hQ : Q (.inl (some (.int (thr)))) (rp thr cnt I)) : mx_W mx_K mT mCl jM_thrown (mR 0 0) 0 [.ref 0] [] (rp thr cnt I) Q := by
  refine mx_aload_n dM_thrown_0 rfl ?_
  refine mx_get 8 0 dM_thrown_1 fgM_49 rfl rfl ?_
  refine mx_iret dM_thrown_4 rfl rfl ?_
  exact hQ
theorem cM_isGate {thr cnt : Int32} {I : Nat → Nat → Int32} {Q : mx_O → List va_E → Prop} {x : Int32} (hQ : Q (.inl (some (.int (qP_hasGate cnt x)))) (rp thr cnt I)) : mx_W mx_K mT mCl jM_isGate (mR 0 0) 0 [.ref 0, .int x] [] (rp thr cnt I) Q := by
  refine mx_iload_n dM_isGate_0 rfl ?_
  refine mx_iconst (1) dM_isGate_1 (by decide) ?_
  refine mx_icmp_lt 17 dM_isGate_2 rfl (fun h2 => ?_) (fun h2 => ?_)
  · refine mx_iconst (0) dM_isGate_17 (by decide) ?_
    refine mx_iret dM_isGate_18 rfl rfl ?_
    simpa [qP_hasGate, h2] using hQ
  · refine mx_iload_n dM_isGate_5 rfl ?_
    refine mx_aload_n dM_isGate_6 rfl ?_
    refine mx_get 8 1 dM_isGate_7 fgM_53 rfl rfl ?_
    refine mx_icmp_gt 17 dM_isGate_10 rfl (fun h10 => ?_) (fun h10 => ?_)
    · refine mx_iconst (0) dM_isGate_17 (by decide) ?_
      refine mx_iret dM_isGate_18 rfl rfl ?_
      simpa [qP_hasGate, h2, h10] using hQ
    · refine mx_iconst (1) dM_isGate_13 (by decide) ?_
      refine mx_goto 18 dM_isGate_14 rfl ?_
      refine mx_iret dM_isGate_18 rfl rfl ?_
      simpa [qP_hasGate, h2, h10] using hQ
theorem cM_isOuter {hp : List va_E} {Q : mx_O → List va_E → Prop} {x : Int32} (hQ : Q (.inl (some (.int (qM_outer x)))) (hp)) : mx_W mx_K mT mCl jM_isOuter (mR 0 0) 0 [.int x] [] hp Q := by
  refine mx_iload_n dM_isOuter_0 rfl ?_
  refine mx_iconst (-1) dM_isOuter_1 (by decide) ?_
  refine mx_icmp_gt 15 dM_isOuter_2 rfl (fun h2 => ?_) (fun h2 => ?_)
  · refine mx_iconst (0) dM_isOuter_15 (by decide) ?_
    refine mx_iret dM_isOuter_16 rfl rfl ?_
    simpa [qM_outer, h2] using hQ
  · refine mx_iload_n dM_isOuter_5 rfl ?_
    refine mx_bipush (-3) dM_isOuter_6 (by decide) ?_
    refine mx_icmp_lt 15 dM_isOuter_8 rfl (fun h8 => ?_) (fun h8 => ?_)
    · refine mx_iconst (0) dM_isOuter_15 (by decide) ?_
      refine mx_iret dM_isOuter_16 rfl rfl ?_
      simpa [qM_outer, h2, h8] using hQ
    · refine mx_iconst (1) dM_isOuter_11 (by decide) ?_
      refine mx_goto 16 dM_isOuter_12 rfl ?_
      refine mx_iret dM_isOuter_16 rfl rfl ?_
      simpa [qM_outer, h2, h8] using hQ
theorem cM_pins {thr cnt : Int32} {I : Nat → Nat → Int32} {Q : mx_O → List va_E → Prop} {x : Int32} (hx : vp_in x 13) (hQ : Q (.inl (some (.int (qP_pinsOf (I 1) x)))) (rp thr cnt I)) : mx_W mx_K mT mCl jM_pins (mR 0 0) 0 [.ref 0, .int x] [] (rp thr cnt I) Q := by
  refine mx_aload_n dM_pins_0 rfl ?_
  refine mx_get 8 2 dM_pins_1 fgM_7 rfl rfl ?_
  refine mx_iload_n dM_pins_4 rfl ?_
  refine mx_iald dM_pins_5 rfl hx ?_
  refine mx_iconst (2) dM_pins_6 (by decide) ?_
  refine mx_icmp_ge 14 dM_pins_7 rfl (fun h7 => ?_) (fun h7 => ?_)
  · refine mx_iconst (2) dM_pins_14 (by decide) ?_
    refine mx_iret dM_pins_15 rfl rfl ?_
    first | (rw [show qP_pinsOf (I 1) x = 2 from if_pos ((le2 _).mp h7)] at hQ; exact hQ) | (rw [show qP_pinsOf (I 1) x = 1 from if_neg (fun e => h7 ((le2 _).mpr e))] at hQ; exact hQ)
  · refine mx_iconst (1) dM_pins_10 (by decide) ?_
    refine mx_goto 15 dM_pins_11 rfl ?_
    refine mx_iret dM_pins_15 rfl rfl ?_
    first | (rw [show qP_pinsOf (I 1) x = 2 from if_pos ((le2 _).mp h7)] at hQ; exact hQ) | (rw [show qP_pinsOf (I 1) x = 1 from if_neg (fun e => h7 ((le2 _).mpr e))] at hQ; exact hQ)
theorem cM_place {thr cnt : Int32} {I : Nat → Nat → Int32} {Q : mx_O → List va_E → Prop} {x y : Int32} (hx : qP_hasGate cnt x ≠ 0 → vp_in x 13) (hQ : Q (.inl (some (.int (qM_place cnt (I 1) x y)))) (rp thr cnt I)) : mx_W mx_K mT mCl jM_place (mR 1 21) 0 [.ref 0, .int x, .int y] [] (rp thr cnt I) Q := by
  refine mx_iload_n dM_place_0 rfl ?_
  refine mx_S1 (R' := (mR 0 0)) [_] _ dM_place_1 rfl mT_G jM_isOuter_ok jM_isOuter_v lkM_56 ⟨rfl, rfl, Nat.le_of_ble_eq_true rfl, Nat.le_of_ble_eq_true rfl⟩ rfl rfl (Nat.le_of_ble_eq_true rfl) (Nat.le_of_ble_eq_true rfl) (fun Qc qc => cM_isOuter qc) ?_
  refine mx_if_eq 20 dM_place_4 rfl (fun h4 => ?_) (fun h4 => ?_)
  · refine mx_aload_n dM_place_20 rfl ?_
    refine mx_iload_n dM_place_21 rfl ?_
    refine mx_V1 (R' := (mR 0 0)) [_] _ dM_place_22 rfl mT_G jM_isGate_ok jM_isGate_v lkM_60 ⟨rfl, rfl, Nat.le_of_ble_eq_true rfl, Nat.le_of_ble_eq_true rfl⟩ rfl rfl (Nat.le_of_ble_eq_true rfl) (Nat.le_of_ble_eq_true rfl) rfl rfl rfl (fun Qc qc => cM_isGate qc) ?_
    refine mx_if_eq 51 dM_place_25 rfl (fun h25 => ?_) (fun h25 => ?_)
    · refine mx_iconst (-1) dM_place_51 (by decide) ?_
      refine mx_iret dM_place_52 rfl rfl ?_
      simpa [qM_place, h4, h25] using hQ
    · refine mx_iload_n dM_place_28 rfl ?_
      refine mx_if_lt 51 dM_place_29 rfl (fun h29 => ?_) (fun h29 => ?_)
      · refine mx_iconst (-1) dM_place_51 (by decide) ?_
        refine mx_iret dM_place_52 rfl rfl ?_
        simpa [qM_place, h4, h25, h29] using hQ
      · refine mx_iload_n dM_place_32 rfl ?_
        refine mx_aload_n dM_place_33 rfl ?_
        refine mx_iload_n dM_place_34 rfl ?_
        refine mx_V1 (R' := (mR 0 0)) [_] _ dM_place_35 rfl mT_G jM_pins_ok jM_pins_v lkM_63 ⟨rfl, rfl, Nat.le_of_ble_eq_true rfl, Nat.le_of_ble_eq_true rfl⟩ rfl rfl (Nat.le_of_ble_eq_true rfl) (Nat.le_of_ble_eq_true rfl) rfl rfl rfl (fun Qc qc => cM_pins (hx h25) qc) ?_
        refine mx_icmp_ge 51 dM_place_38 rfl (fun h38 => ?_) (fun h38 => ?_)
        · refine mx_iconst (-1) dM_place_51 (by decide) ?_
          refine mx_iret dM_place_52 rfl rfl ?_
          simpa [qM_place, h4, h25, h29, h38] using hQ
        · refine mx_iconst (2) dM_place_41 (by decide) ?_
          refine mx_iload_n dM_place_42 rfl ?_
          refine mx_imul dM_place_43 ?_
          refine mx_iconst (2) dM_place_44 (by decide) ?_
          refine mx_isub dM_place_45 ?_
          refine mx_iload_n dM_place_46 rfl ?_
          refine mx_iadd dM_place_47 ?_
          refine mx_goto 52 dM_place_48 rfl ?_
          refine mx_iret dM_place_52 rfl rfl ?_
          simpa [qM_place, h4, h25, h29, h38] using hQ
  · refine mx_iload_n dM_place_7 rfl ?_
    refine mx_if_ne 18 dM_place_8 rfl (fun h8 => ?_) (fun h8 => ?_)
    · refine mx_iconst (-1) dM_place_18 (by decide) ?_
      refine mx_iret dM_place_19 rfl rfl ?_
      simpa [qM_place, h4, h8] using hQ
    · refine mx_bipush (23) dM_place_11 (by decide) ?_
      refine mx_iload_n dM_place_13 rfl ?_
      refine mx_isub dM_place_14 ?_
      refine mx_goto 19 dM_place_15 rfl ?_
      refine mx_iret dM_place_19 rfl rfl ?_
      simpa [qM_place, h4, h8] using hQ
def qM_isW (fr : Nat → Int32) (i : Int32) : Int32 := if i < 0 then 0 else if fr i.toNatClampNeg = 0 then 0 else 1
def qM_isR (fr mn : Nat → Int32) (i r : Int32) : Int32 := if qM_isW fr i = 0 then 0 else if r < 0 then 0 else if mn i.toNatClampNeg ≤ r then 0 else 1
theorem cM_isWire {thr cnt : Int32} {I : Nat → Nat → Int32} {Q : mx_O → List va_E → Prop} {i : Int32} (hi : ¬ i < 0 → vp_in i 27) (hQ : Q (.inl (some (.int (qM_isW (I 3) i)))) (rp thr cnt I)) : mx_W mx_K mT mCl jM_isWire (mR 0 0) 0 [.ref 0, .int i] [] (rp thr cnt I) Q := by
  refine mx_iload_n dM_isWire_0 rfl ?_
  refine mx_if_lt 17 dM_isWire_1 rfl (fun h1 => ?_) (fun h1 => ?_)
  · refine mx_iconst (0) dM_isWire_17 (by decide) ?_
    refine mx_iret dM_isWire_18 rfl rfl ?_
    simpa [qM_isW, h1] using hQ
  · refine mx_aload_n dM_isWire_4 rfl ?_
    refine mx_get 8 4 dM_isWire_5 fgM_16 rfl rfl ?_
    refine mx_iload_n dM_isWire_8 rfl ?_
    refine mx_iald dM_isWire_9 rfl (hi h1) ?_
    refine mx_if_eq 17 dM_isWire_10 rfl (fun h10 => ?_) (fun h10 => ?_)
    · refine mx_iconst (0) dM_isWire_17 (by decide) ?_
      refine mx_iret dM_isWire_18 rfl rfl ?_
      simpa [qM_isW, h1, h10] using hQ
    · refine mx_iconst (1) dM_isWire_13 (by decide) ?_
      refine mx_goto 18 dM_isWire_14 rfl ?_
      refine mx_iret dM_isWire_18 rfl rfl ?_
      simpa [qM_isW, h1, h10] using hQ
theorem cM_isRegister {thr cnt : Int32} {I : Nat → Nat → Int32} {Q : mx_O → List va_E → Prop} {i r : Int32} (hi : ¬ i < 0 → vp_in i 27) (hQ : Q (.inl (some (.int (qM_isR (I 3) (I 4) i r)))) (rp thr cnt I)) : mx_W mx_K mT mCl jM_isRegister (mR 1 21) 0 [.ref 0, .int i, .int r] [] (rp thr cnt I) Q := by
  refine mx_aload_n dM_isRegister_0 rfl ?_
  refine mx_iload_n dM_isRegister_1 rfl ?_
  refine mx_V1 (R' := (mR 0 0)) [_] _ dM_isRegister_2 rfl mT_G jM_isWire_ok jM_isWire_v lkM_74 ⟨rfl, rfl, Nat.le_of_ble_eq_true rfl, Nat.le_of_ble_eq_true rfl⟩ rfl rfl (Nat.le_of_ble_eq_true rfl) (Nat.le_of_ble_eq_true rfl) rfl rfl rfl (fun Qc qc => cM_isWire hi qc) ?_
  refine mx_if_eq 26 dM_isRegister_5 rfl (fun h5 => ?_) (fun h5 => ?_)
  · refine mx_iconst (0) dM_isRegister_26 (by decide) ?_
    refine mx_iret dM_isRegister_27 rfl rfl ?_
    simpa [qM_isR, h5] using hQ
  · refine mx_iload_n dM_isRegister_8 rfl ?_
    refine mx_if_lt 26 dM_isRegister_9 rfl (fun h9 => ?_) (fun h9 => ?_)
    · refine mx_iconst (0) dM_isRegister_26 (by decide) ?_
      refine mx_iret dM_isRegister_27 rfl rfl ?_
      simpa [qM_isR, h5, h9] using hQ
    · refine mx_iload_n dM_isRegister_12 rfl ?_
      refine mx_aload_n dM_isRegister_13 rfl ?_
      refine mx_get 8 5 dM_isRegister_14 fgM_19 rfl rfl ?_
      refine mx_iload_n dM_isRegister_17 rfl ?_
      refine mx_iald dM_isRegister_18 rfl (hi (fun e => h5 (by unfold qM_isW; rw [if_pos e]))) ?_
      refine mx_icmp_ge 26 dM_isRegister_19 rfl (fun h19 => ?_) (fun h19 => ?_)
      · refine mx_iconst (0) dM_isRegister_26 (by decide) ?_
        refine mx_iret dM_isRegister_27 rfl rfl ?_
        simpa [qM_isR, h5, h9, h19] using hQ
      · refine mx_iconst (1) dM_isRegister_22 (by decide) ?_
        refine mx_goto 27 dM_isRegister_23 rfl ?_
        refine mx_iret dM_isRegister_27 rfl rfl ?_
        simpa [qM_isR, h5, h9, h19] using hQ
theorem cM_sinkOf {hp : List va_E} {Q : mx_O → List va_E → Prop} {x : Int32} (hQ : Q (.inl (some (.int (qP_gateBefore x)))) (hp)) : mx_W mx_K mT mCl jM_sinkOf (mR 0 0) 0 [.int x] [] hp Q := by
  refine mx_iload_n dM_sinkOf_0 rfl ?_
  refine mx_bipush (24) dM_sinkOf_1 (by decide) ?_
  refine mx_icmp_ge 14 dM_sinkOf_3 rfl (fun h3 => ?_) (fun h3 => ?_)
  · refine mx_iconst (0) dM_sinkOf_14 (by decide) ?_
    refine mx_iret dM_sinkOf_15 rfl rfl ?_
    simpa [qP_gateBefore, h3] using hQ
  · refine mx_iload_n dM_sinkOf_6 rfl ?_
    refine mx_iconst (2) dM_sinkOf_7 (by decide) ?_
    refine mx_idiv dM_sinkOf_8 (by decide) ?_
    refine mx_iconst (1) dM_sinkOf_9 (by decide) ?_
    refine mx_iadd dM_sinkOf_10 ?_
    refine mx_goto 15 dM_sinkOf_11 rfl ?_
    refine mx_iret dM_sinkOf_15 rfl rfl ?_
    simpa [qP_gateBefore, h3] using hQ
theorem cM_begin {thr cnt : Int32} {I : Nat → Nat → Int32} {Q : mx_O → List va_E → Prop} (hQ : Q (.inl none) (rp thr cnt (upI I 6 (I 5)))) : mx_W mx_K mT mCl jM_begin (mR 0 0) 0 [.ref 0, .retAddr 0] [] (rp thr cnt I) Q := by
  have hlp : ∀ n j, j < n → lp (fun j f => upd f j (I 5 j)) n (I 6) j = I 5 j := by
    intro n
    induction n with
    | zero => intro j hj; omega
    | succ n ih =>
      intro j hj
      show upd (lp (fun j f => upd f j (I 5 j)) n (I 6)) n (I 5 n) j = I 5 j
      by_cases e : j = n
      · subst e; exact pk_us
      · rw [pk_un e]; exact ih j (by omega)
  have hloop : ∀ i, i ≤ 1080 → mx_W mx_K mT mCl jM_begin (mR 0 0) 2 [.ref 0, .int (nI i)] [] (rp thr cnt (upI I 6 (lp (fun j f => upd f j (I 5 j)) i (I 6)))) Q := by
    refine lp_down ?_ ?_
    · generalize hf : lp (fun j f => upd f j (I 5 j)) 1080 (I 6) = f
      refine mx_ext (b := 6) (v := (1080, .inl (I 5))) (show (rp thr cnt (upI I 6 f))[6]? = some (eI 1080 f) from rfl) (mx_fi (fun j hj => by rw [← hf]; exact hlp 1080 j hj)) ?_
      refine mx_eqs (hp' := rp thr cnt (upI I 6 (I 5))) rfl rfl rfl (by rw [← upI_upI I 6 f]; rfl) ?_
      refine mx_iload_n dM_begin_2 rfl ?_
      refine mx_sipush (1080) dM_begin_3 (by decide) ?_
      refine mx_icmp_ge 27 dM_begin_6 rfl (fun h6 => ?_) (fun h6 => ?_)
      rotate_left
      · exact absurd (show (1080 : Int32) ≤ nI 1080 by decide) h6
      refine mx_vret dM_begin_27 rfl ?_
      exact hQ
    · intro i hi ih
      have ih : mx_W mx_K mT mCl jM_begin (mR 0 0) 2 [.ref 0, .int (nI (i + 1))] [] (rp thr cnt (upI I 6 (upd (lp (fun j f => upd f j (I 5 j)) i (I 6)) i (I 5 i)))) Q := ih
      generalize lp (fun j f => upd f j (I 5 j)) i (I 6) = f at ih ⊢
      refine mx_iload_n dM_begin_2 rfl ?_
      refine mx_sipush (1080) dM_begin_3 (by decide) ?_
      refine mx_icmp_ge 27 dM_begin_6 rfl (fun h6 => ?_) (fun h6 => ?_)
      · exact absurd h6 (nI_ge (b := 1080) hi (by decide))
      refine mx_aload_n dM_begin_9 rfl ?_
      refine mx_get 8 7 dM_begin_10 fgM_25 rfl rfl ?_
      refine mx_iload_n dM_begin_13 rfl ?_
      refine mx_aload_n dM_begin_14 rfl ?_
      refine mx_get 8 6 dM_begin_15 fgM_22 rfl rfl ?_
      refine mx_iload_n dM_begin_18 rfl ?_
      refine mx_iald dM_begin_19 rfl (vp_in_nI (by omega) (by decide)) ?_
      refine mx_iast dM_begin_20 rfl (vp_in_nI (by omega) (by decide)) ?_
      rw [nI_clamp (by omega)]
      refine mx_iinc dM_begin_21 rfl (mx_inc _) (Nat.le_of_ble_eq_true rfl) rfl ?_
      refine mx_goto 2 dM_begin_24 rfl ?_
      refine mx_eqs rfl rfl rfl ?_ ih
      rw [← upI_upI I 6 f]
      rfl
  refine mx_iconst (0) dM_begin_0 (by decide) ?_
  refine mx_istore_n dM_begin_1 (Nat.le_of_ble_eq_true rfl) rfl ?_
  refine mx_eqs rfl rfl rfl ?_ (hloop 0 (Nat.zero_le _))
  rw [lp_zero, upI_own]
