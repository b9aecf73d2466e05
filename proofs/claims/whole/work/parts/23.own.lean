/-! MovedRegisters: its own methods. -/
section MXF
variable {T : List Cond} {cl : List vw_C} {J : mx_J} {R : Room} {k : Nat} {ls : List Value} {hp : List va_E} {Q : mx_O → List va_E → Prop}
theorem mx_VT1 {J' : mx_J} {R' : Room} {idx n b ci : Nat} {fs : List Value} {r : vw_C} {st : List Value} {X : Nat} {hp' : List va_E} (as rest : List Value) (hd : decode J.2.1 k = .ok (.invokevirtual idx, 3)) (hst : st = as.reverse ++ .ref b :: rest) (hG : mx_G T) (hok : mx_ok T J' n) (hV : Cond.instanceMethod J'.1 ∈ T ∧ Cond.selects J'.1.cls J'.1 J'.1 ∈ T) (hlk : Cond.methodLink J.1.cls idx J'.1 ∈ T) (hRm : mx_rmT R' R J'.2.2.1) (hn : as.length = n) (hc1 : mx_cat1 (.ref b :: as) = true) (hle : (.ref b :: as).length ≤ J'.2.2.1) (hrest : (rest.map fun v => v.category).sum ≤ 8) (hb : hp[b]? = some (.inr (ci, fs))) (hci : cl[ci]? = some r) (hr : r.1 = J'.1.cls)
    (hW : ∀ Qc : mx_O → List va_E → Prop, Qc (.inr X) hp' → mx_W mx_K T cl J' R' 0 (mx_pad (.ref b :: as) J'.2.2.1) [] hp Qc) (hQ : Q (.inr X) hp') : mx_W mx_K T cl J R k ls st hp Q :=
  mx_VT as rest hd hst hG hok hV hlk hRm hn hc1 hle hrest hb hci hr (hW (fun r h => r = .inr X ∧ h = hp') ⟨rfl, rfl⟩) (fun v h' q => by cases q.1) (fun X' h' q => by
    obtain ⟨e1, e2⟩ := q
    cases e1
    subst e2
    exact hQ)
end MXF
def aVal (x : Int32) : Int32 := if x < 0 then 0 else if 2 < x then 0 else 1
theorem hasG {c : Nat} {x : Int32} (hc : c ≤ 12) (h : ¬ qP_hasGate (nI c) x = 0) : ∃ u, 1 ≤ u ∧ u ≤ c ∧ x = nI u := by
  unfold qP_hasGate at h
  by_cases h1 : x < 1
  · rw [if_pos h1] at h; exact absurd rfl h
  · rw [if_neg h1] at h
    by_cases h2 : nI c < x
    · rw [if_pos h2] at h; exact absurd rfl h
    · have a1 : ¬ x.toInt < 1 := fun e => h1 (Int32.lt_iff_toInt_lt.mpr (by simpa using e))
      have a2 : ¬ (c : Int) < x.toInt := fun e => h2 (Int32.lt_iff_toInt_lt.mpr (by rw [nI_toInt (by omega)]; exact e))
      refine ⟨x.toInt.toNat, by omega, by omega, ?_⟩
      apply Int32.toInt_inj.mp
      rw [nI_toInt (by omega)]
      omega
theorem cA_isValue {hp : List va_E} {Q : mx_O → List va_E → Prop} {x : Int32} (hQ : Q (.inl (some (.int (aVal x)))) (hp)) : mx_W mx_K mT mCl jA_isValue (mR 0 0) 0 [.int x] [] hp Q := by
  refine mx_iload_n dA_isValue_0 rfl ?_
  refine mx_if_lt 13 dA_isValue_1 rfl (fun h1 => ?_) (fun h1 => ?_)
  · refine mx_iconst (0) dA_isValue_13 (by decide) ?_
    refine mx_iret dA_isValue_14 rfl rfl ?_
    simpa [aVal, h1] using hQ
  · refine mx_iload_n dA_isValue_4 rfl ?_
    refine mx_iconst (2) dA_isValue_5 (by decide) ?_
    refine mx_icmp_gt 13 dA_isValue_6 rfl (fun h6 => ?_) (fun h6 => ?_)
    · refine mx_iconst (0) dA_isValue_13 (by decide) ?_
      refine mx_iret dA_isValue_14 rfl rfl ?_
      simpa [aVal, h1, h6] using hQ
    · refine mx_iconst (1) dA_isValue_9 (by decide) ?_
      refine mx_goto 14 dA_isValue_10 rfl ?_
      refine mx_iret dA_isValue_14 rfl rfl ?_
      simpa [aVal, h1, h6] using hQ
theorem cA_gates {c : Nat} {fil : Int32} {I : Nat → Nat → Int32} {L : Nat → Nat → Int64} {Q : mx_O → List va_E → Prop} (hQ : Q (.inl (some (.int (nI c)))) (pic (nI c) fil I L)) : mx_W mx_K mT mCl jA_gates (mR 0 0) 0 [.ref 0] [] (pic (nI c) fil I L) Q := by
  refine mx_aload_n dA_gates_0 rfl ?_
  refine mx_get 0 0 dA_gates_1 fgA_12 rfl rfl ?_
  refine mx_get 1 0 dA_gates_4 fgA_68 rfl rfl ?_
  refine mx_iret dA_gates_7 rfl rfl ?_
  exact hQ
theorem cA_sound {c : Nat} {fil : Int32} {I : Nat → Nat → Int32} {L : Nat → Nat → Int64} {Q : mx_O → List va_E → Prop} (hc : c ≤ 12) (hsr : ∀ w, w < 27 → I 12 w ≤ 12) (hQ : Q (.inl (some (.int (i01 (sndB c I))))) (sndH c fil I L)) : mx_W mx_K mT mCl jA_sound (mR 6 136) 0 [.ref 0] [] (pic (nI c) fil I L) Q := by
  refine mx_aload_n dA_sound_0 rfl ?_
  refine mx_V1 (R' := (mR 5 116)) [] _ dA_sound_1 rfl mT_G jA_isSound_ok jA_isSound_v lkA_121 ⟨rfl, rfl, Nat.le_of_ble_eq_true rfl, Nat.le_of_ble_eq_true rfl⟩ rfl rfl (Nat.le_of_ble_eq_true rfl) (Nat.le_of_ble_eq_true rfl) rfl rfl rfl (fun Qc qc => cA_isSound hc hsr qc) ?_
  refine mx_iret dA_sound_4 rfl (by cases sndB c I <;> rfl) ?_
  exact hQ
/-- the run begins anew: the clock's bank is the circuit's -/
def begI (I : Nat → Nat → Int32) : Nat → Nat → Int32 := upI I 65 (I 13)
def begL (L : Nat → Nat → Int64) : Nat → Nat → Int64 := upL L 66 (L 14)
theorem pic_beg {c : Int32} {fil : Int32} {I : Nat → Nat → Int32} {L : Nat → Nat → Int64} : ((pic c fil I L).set 65 (eL (I 13))).set 66 (eV (L 14)) = pic c fil (begI I) (begL L) := by
  rw [show eL (I 13) = eI 27 (I 13) from rfl, pic_65, pic_66]
  rfl
theorem cA_restart {c : Nat} {fil : Int32} {I : Nat → Nat → Int32} {L : Nat → Nat → Int64} {Q : mx_O → List va_E → Prop} (hQ : Q (.inl none) (pic (nI c) fil (begI I) (begL L))) : mx_W mx_K mT mCl jA_restart (mR 3 102) 0 [.ref 0] [] (pic (nI c) fil I L) Q := by
  refine mx_aload_n dA_restart_0 rfl ?_
  refine mx_get 0 7 dA_restart_1 fgA_57 rfl rfl ?_
  refine mx_aload_n dA_restart_4 rfl ?_
  refine mx_get 0 1 dA_restart_5 fgA_19 rfl rfl ?_
  refine mx_V1 (R' := (mR 2 81)) [_] _ dA_restart_8 rfl mT_G jC_begin_ok jC_begin_v lkA_79 ⟨rfl, rfl, Nat.le_of_ble_eq_true rfl, Nat.le_of_ble_eq_true rfl⟩ rfl rfl (Nat.le_of_ble_eq_true rfl) (Nat.le_of_ble_eq_true rfl) rfl rfl rfl (fun Qc qc => cC_begin (bs := 24) (kv0 := 25) (kl := 65) (kv := 66) (kl2 := 13) (kv2 := 14) rfl pic_S pic_B (by decide) (by decide) qc) ?_
  refine mx_vret dA_restart_11 rfl ?_
  rw [pic_beg]
  exact hQ
theorem cA_needGate {c : Nat} {fil : Int32} {I : Nat → Nat → Int32} {L : Nat → Nat → Int64} {Q : mx_O → List va_E → Prop} {x : Int32} (hx : ¬ qP_hasGate (nI c) x = 0) (hQ : Q (.inl none) (pic (nI c) fil I L)) : mx_W mx_K mT mCl jA_needGate (mR 6 92) 0 [.ref 0, .int x] [] (pic (nI c) fil I L) Q := by
  refine mx_aload_n dA_needGate_0 rfl ?_
  refine mx_get 0 0 dA_needGate_1 fgA_12 rfl rfl ?_
  refine mx_iload_n dA_needGate_4 rfl ?_
  refine mx_V1 (R' := (mR 0 0)) [_] _ dA_needGate_5 rfl mT_G jP_hasGate_ok jP_hasGate_v lkA_175 ⟨rfl, rfl, Nat.le_of_ble_eq_true rfl, Nat.le_of_ble_eq_true rfl⟩ rfl rfl (Nat.le_of_ble_eq_true rfl) (Nat.le_of_ble_eq_true rfl) rfl rfl rfl (fun Qc qc => cP_hasGate pic_P qc) ?_
  refine mx_if_ne 19 dA_needGate_8 rfl (fun h8 => ?_) (fun h8 => ?_)
  rotate_left
  · exact absurd h8 hx
  refine mx_vret dA_needGate_19 rfl ?_
  exact hQ
theorem cA_needGateT {c : Nat} {fil : Int32} {I : Nat → Nat → Int32} {L : Nat → Nat → Int64} {Q : mx_O → List va_E → Prop} {x : Int32} (hx : qP_hasGate (nI c) x = 0) (hQ : Q (.inr 2) (pic (nI c) fil I L)) : mx_W mx_K mT mCl jA_needGate (mRT 6 92) 0 [.ref 0, .int x] [] (pic (nI c) fil I L) Q := by
  refine mx_aload_n dA_needGate_0 rfl ?_
  refine mx_get 0 0 dA_needGate_1 fgA_12 rfl rfl ?_
  refine mx_iload_n dA_needGate_4 rfl ?_
  refine mx_V1 (R' := (mR 0 0)) [_] _ dA_needGate_5 rfl mT_G jP_hasGate_ok jP_hasGate_v lkA_175 ⟨rfl, rfl, Nat.le_of_ble_eq_true rfl, Nat.le_of_ble_eq_true rfl⟩ rfl rfl (Nat.le_of_ble_eq_true rfl) (Nat.le_of_ble_eq_true rfl) rfl rfl rfl (fun Qc qc => cP_hasGate pic_P qc) ?_
  refine mx_if_ne 19 dA_needGate_8 rfl (fun h8 => ?_) (fun h8 => ?_)
  · exact absurd hx h8
  refine mx_throw 2 dA_needGate_11 dA_needGate_14 dA_needGate_15 dA_needGate_18 mT_G (mT_2 (i := 127) rfl rfl) (mT_2 (i := 128) rfl rfl) (mT_1 (i := 16) rfl rfl) (by decide +kernel) (tw_of tw_89) (Nat.le_of_ble_eq_true rfl) (Nat.le_of_ble_eq_true rfl) (Nat.le_refl _) (Nat.le_refl _) ?_
  exact hQ
/-- behind a sound check: the order's cells -/
def oI (c : Nat) (I : Nat → Nat → Int32) : Nat → Nat → Int32 := upI (upI I 17 (oFin c I).2.1) 18 (oFin c I).1
theorem sndH_t {c : Nat} {fil : Int32} {I : Nat → Nat → Int32} {L : Nat → Nat → Int64} (h : sndB c I = true) : sndH c fil I L = pic (nI c) (nI c) (oI c I) L := by
  unfold sndB at h
  obtain ⟨h1, h2⟩ := Bool.and_eq_true_iff.mp h
  unfold sndH
  rw [if_pos h1]
  show pic (nI c) (nI (oFin c I).2.2) (oI c I) L = _
  rw [of_decide_eq_true h2]
theorem cA_needSound {c : Nat} {fil : Int32} {I : Nat → Nat → Int32} {L : Nat → Nat → Int64} {Q : mx_O → List va_E → Prop} (hc : c ≤ 12) (hsr : ∀ w, w < 27 → I 12 w ≤ 12) (hs : sndB c I = true) (hQ : Q (.inl none) (pic (nI c) (nI c) (oI c I) L)) : mx_W mx_K mT mCl jA_needSound (mR 6 136) 0 [.ref 0] [] (pic (nI c) fil I L) Q := by
  refine mx_aload_n dA_needSound_0 rfl ?_
  refine mx_V1 (R' := (mR 5 116)) [] _ dA_needSound_1 rfl mT_G jA_isSound_ok jA_isSound_v lkA_121 ⟨rfl, rfl, Nat.le_of_ble_eq_true rfl, Nat.le_of_ble_eq_true rfl⟩ rfl rfl (Nat.le_of_ble_eq_true rfl) (Nat.le_of_ble_eq_true rfl) rfl rfl rfl (fun Qc qc => cA_isSound hc hsr qc) ?_
  rw [hs, sndH_t hs]
  refine mx_if_ne 15 dA_needSound_4 rfl (fun h4 => ?_) (fun h4 => ?_)
  rotate_left
  · exact absurd h4 (by decide)
  refine mx_vret dA_needSound_15 rfl ?_
  exact hQ
theorem cA_needSoundT {c : Nat} {fil : Int32} {I : Nat → Nat → Int32} {L : Nat → Nat → Int64} {Q : mx_O → List va_E → Prop} (hc : c ≤ 12) (hsr : ∀ w, w < 27 → I 12 w ≤ 12) (hs : sndB c I = false) (hQ : Q (.inr 3) (sndH c fil I L)) : mx_W mx_K mT mCl jA_needSound (mRT 6 136) 0 [.ref 0] [] (pic (nI c) fil I L) Q := by
  refine mx_aload_n dA_needSound_0 rfl ?_
  refine mx_V1 (R' := (mR 5 116)) [] _ dA_needSound_1 rfl mT_G jA_isSound_ok jA_isSound_v lkA_121 ⟨rfl, rfl, Nat.le_of_ble_eq_true rfl, Nat.le_of_ble_eq_true rfl⟩ rfl rfl (Nat.le_of_ble_eq_true rfl) (Nat.le_of_ble_eq_true rfl) rfl rfl rfl (fun Qc qc => cA_isSound hc hsr qc) ?_
  rw [hs]
  refine mx_if_ne 15 dA_needSound_4 rfl (fun h4 => ?_) (fun h4 => ?_)
  · exact absurd rfl h4
  refine mx_throw 3 dA_needSound_7 dA_needSound_10 dA_needSound_11 dA_needSound_14 mT_G (mT_2 (i := 210) rfl rfl) (mT_2 (i := 211) rfl rfl) (mT_1 (i := 18) rfl rfl) (by decide +kernel) (tw_of tw_180) (Nat.le_of_ble_eq_true rfl) (Nat.le_of_ble_eq_true rfl) (Nat.le_refl _) (Nat.le_refl _) ?_
  exact hQ
/-- the wire of a pin, if there is one -/
def aWt (c : Nat) (I : Nat → Nat → Int32) (x y : Int32) : Option Nat := if qP_placeOf (nI c) (I 10) x y = -1 then none else if I 12 (qP_placeOf (nI c) (I 10) x y).toNatClampNeg = 0 then none else some (qP_placeOf (nI c) (I 10) x y).toNatClampNeg
theorem place_in {c : Nat} {kd : Nat → Int32} {x y : Int32} (hc : c ≤ 12) (h : ¬ qP_placeOf (nI c) kd x y = -1) : ∃ w, w < 27 ∧ qP_placeOf (nI c) kd x y = nI w := by
  unfold qP_placeOf at h ⊢
  by_cases h0 : 0 ≤ y
  · rw [if_pos h0] at h ⊢
    by_cases h1 : qP_hasGate (nI c) x = 0
    · rw [if_pos h1] at h ⊢
      by_cases h2 : qP_isPort x = 0
      · rw [if_pos h2] at h; exact absurd rfl h
      · rw [if_neg h2] at h ⊢
        by_cases h3 : ¬ y = 0
        · rw [if_pos h3] at h; exact absurd rfl h
        · rw [if_neg h3] at h ⊢
          unfold qP_isPort at h2
          by_cases h4 : x < -3
          · rw [if_pos h4] at h2; exact absurd rfl h2
          · rw [if_neg h4] at h2
            by_cases h5 : -1 < x
            · rw [if_pos h5] at h2; exact absurd rfl h2
            · have a1 : ¬ x.toInt < -3 := fun e => h4 (Int32.lt_iff_toInt_lt.mpr (by simpa using e))
              have a2 : ¬ -1 < x.toInt := fun e => h5 (Int32.lt_iff_toInt_lt.mpr (by simpa using e))
              refine ⟨(23 - x.toInt).toNat, by omega, ?_⟩
              apply Int32.toInt_inj.mp
              rw [nI_toInt (by omega), Int32.toInt_sub]
              rw [show (23 : Int32).toInt = 23 from by decide]
              rw [Int.bmod_eq_of_le (by omega) (by omega)]
              omega
    · rw [if_neg h1] at h ⊢
      obtain ⟨u, u1, u2, rfl⟩ := hasG hc h1
      have hp2 := pn_le kd u
      by_cases h2 : qP_pinsOf kd (nI u) ≤ y
      · rw [if_pos h2] at h; exact absurd rfl h
      · rw [if_neg h2]
        obtain ⟨v, hv, rfl⟩ := nI_of (x := y) (fun e => by
          have e1 := Int32.lt_iff_toInt_lt.mp e
          have e2 := Int32.le_iff_toInt_le.mp h0
          omega)
        rw [pn_nat (by omega), nI_leI (by omega) hv] at h2
        rw [fp_nat u1, nI_add]
        exact ⟨2 * u - 2 + v, by omega, rfl⟩
  · rw [if_neg h0] at h; exact absurd rfl h
theorem aWt_some {c : Nat} {I : Nat → Nat → Int32} {x y : Int32} {w : Nat} (hc : c ≤ 12) (h : aWt c I x y = some w) : w < 27 ∧ qP_placeOf (nI c) (I 10) x y = nI w ∧ ¬ I 12 w = 0 := by
  unfold aWt at h
  by_cases h1 : qP_placeOf (nI c) (I 10) x y = -1
  · rw [if_pos h1] at h; cases h
  · rw [if_neg h1] at h
    obtain ⟨v, hv, e⟩ := place_in hc h1
    rw [e, nI_clamp (by omega)] at h
    by_cases h2 : I 12 v = 0
    · rw [if_pos h2] at h; cases h
    · rw [if_neg h2] at h
      cases h
      exact ⟨hv, e, h2⟩
theorem cA_wireTo {c : Nat} {fil : Int32} {I : Nat → Nat → Int32} {L : Nat → Nat → Int64} {Q : mx_O → List va_E → Prop} (hc : c ≤ 12) {x y : Int32} {w : Nat} (hw : aWt c I x y = some w) (hQ : Q (.inl (some (.int (nI w)))) (pic (nI c) fil I L)) : mx_W mx_K mT mCl jA_wireTo (mR 6 92) 0 [.ref 0, .int x, .int y, .retAddr 0] [] (pic (nI c) fil I L) Q := by
  obtain ⟨w1, w2, w3⟩ := aWt_some hc hw
  refine mx_aload_n dA_wireTo_0 rfl ?_
  refine mx_get 0 0 dA_wireTo_1 fgA_12 rfl rfl ?_
  refine mx_iload_n dA_wireTo_4 rfl ?_
  refine mx_iload_n dA_wireTo_5 rfl ?_
  refine mx_V1 (R' := (mR 1 21)) [_, _] _ dA_wireTo_6 rfl mT_G jP_placeOf_ok jP_placeOf_v lkA_90 ⟨rfl, rfl, Nat.le_of_ble_eq_true rfl, Nat.le_of_ble_eq_true rfl⟩ rfl rfl (Nat.le_of_ble_eq_true rfl) (Nat.le_of_ble_eq_true rfl) rfl rfl rfl (fun Qc qc => cP_placeOf pic_P (fun hg => by obtain ⟨u, _, _, rfl⟩ := hasG hc hg; exact vp_in_nI (by omega) (by decide)) qc) ?_
  rw [w2]
  refine mx_istore_n dA_wireTo_9 (Nat.le_of_ble_eq_true rfl) rfl ?_
  refine mx_iload_n dA_wireTo_10 rfl ?_
  refine mx_iconst (-1) dA_wireTo_11 (by decide) ?_
  refine mx_icmp_eq 27 dA_wireTo_12 rfl (fun h12 => ?_) (fun h12 => ?_)
  · exact absurd h12 (fun e => absurd (congrArg Int32.toInt e) (by rw [nI_toInt (by omega), show (-1 : Int32).toInt = -1 from by decide]; omega))
  refine mx_aload_n dA_wireTo_15 rfl ?_
  refine mx_get 0 0 dA_wireTo_16 fgA_12 rfl rfl ?_
  refine mx_get 1 3 dA_wireTo_19 fgA_94 rfl rfl ?_
  refine mx_iload_n dA_wireTo_22 rfl ?_
  refine mx_iald dA_wireTo_23 rfl (vp_in_nI (by omega) (by decide)) ?_
  rw [nI_clamp (by omega)]
  refine mx_if_ne 35 dA_wireTo_24 rfl (fun h24 => ?_) (fun h24 => ?_)
  rotate_left
  · exact absurd h24 w3
  refine mx_iload_n dA_wireTo_35 rfl ?_
  refine mx_iret dA_wireTo_36 rfl rfl ?_
  exact hQ
theorem cA_wireToT {c : Nat} {fil : Int32} {I : Nat → Nat → Int32} {L : Nat → Nat → Int64} {Q : mx_O → List va_E → Prop} (hc : c ≤ 12) {x y : Int32} (hw : aWt c I x y = none) (hQ : Q (.inr 2) (pic (nI c) fil I L)) : mx_W mx_K mT mCl jA_wireTo (mRT 6 92) 0 [.ref 0, .int x, .int y, .retAddr 0] [] (pic (nI c) fil I L) Q := by
  unfold aWt at hw
  refine mx_aload_n dA_wireTo_0 rfl ?_
  refine mx_get 0 0 dA_wireTo_1 fgA_12 rfl rfl ?_
  refine mx_iload_n dA_wireTo_4 rfl ?_
  refine mx_iload_n dA_wireTo_5 rfl ?_
  refine mx_V1 (R' := (mR 1 21)) [_, _] _ dA_wireTo_6 rfl mT_G jP_placeOf_ok jP_placeOf_v lkA_90 ⟨rfl, rfl, Nat.le_of_ble_eq_true rfl, Nat.le_of_ble_eq_true rfl⟩ rfl rfl (Nat.le_of_ble_eq_true rfl) (Nat.le_of_ble_eq_true rfl) rfl rfl rfl (fun Qc qc => cP_placeOf pic_P (fun hg => by obtain ⟨u, _, _, rfl⟩ := hasG hc hg; exact vp_in_nI (by omega) (by decide)) qc) ?_
  refine mx_istore_n dA_wireTo_9 (Nat.le_of_ble_eq_true rfl) rfl ?_
  refine mx_iload_n dA_wireTo_10 rfl ?_
  refine mx_iconst (-1) dA_wireTo_11 (by decide) ?_
  refine mx_icmp_eq 27 dA_wireTo_12 rfl (fun h12 => ?_) (fun h12 => ?_)
  · refine mx_throw 2 dA_wireTo_27 dA_wireTo_30 dA_wireTo_31 dA_wireTo_34 mT_G (mT_2 (i := 127) rfl rfl) (mT_2 (i := 128) rfl rfl) (mT_1 (i := 16) rfl rfl) (by decide +kernel) (tw_of tw_89) (Nat.le_of_ble_eq_true rfl) (Nat.le_of_ble_eq_true rfl) (Nat.le_refl _) (Nat.le_refl _) ?_
    exact hQ
  · rw [if_neg h12] at hw
    obtain ⟨w, hw1, ew⟩ := place_in hc h12
    rw [ew, nI_clamp (by omega)] at hw
    rw [ew]
    refine mx_aload_n dA_wireTo_15 rfl ?_
    refine mx_get 0 0 dA_wireTo_16 fgA_12 rfl rfl ?_
    refine mx_get 1 3 dA_wireTo_19 fgA_94 rfl rfl ?_
    refine mx_iload_n dA_wireTo_22 rfl ?_
    refine mx_iald dA_wireTo_23 rfl (vp_in_nI (by omega) (by decide)) ?_
    rw [nI_clamp (by omega)]
    refine mx_if_ne 35 dA_wireTo_24 rfl (fun h24 => ?_) (fun h24 => ?_)
    · refine mx_iload_n dA_wireTo_35 rfl ?_
      refine mx_iret dA_wireTo_36 rfl rfl ?_
      rw [if_neg h24] at hw
      cases hw
    · refine mx_throw 2 dA_wireTo_27 dA_wireTo_30 dA_wireTo_31 dA_wireTo_34 mT_G (mT_2 (i := 127) rfl rfl) (mT_2 (i := 128) rfl rfl) (mT_1 (i := 16) rfl rfl) (by decide +kernel) (tw_of tw_89) (Nat.le_of_ble_eq_true rfl) (Nat.le_of_ble_eq_true rfl) (Nat.le_refl _) (Nat.le_refl _) ?_
      exact hQ
def aRw (c : Nat) (I : Nat → Nat → Int32) (x y r : Int32) : Option Nat := match aWt c I x y with
  | none => none
  | some w => if r < 0 then none else if ¬ r < I 13 w then none else some w
theorem cA_registerWire {c : Nat} {fil : Int32} {I : Nat → Nat → Int32} {L : Nat → Nat → Int64} {Q : mx_O → List va_E → Prop} (hc : c ≤ 12) {x y r : Int32} {w : Nat} (hw : aRw c I x y r = some w) (hQ : Q (.inl (some (.int (nI w)))) (pic (nI c) fil I L)) : mx_W mx_K mT mCl jA_registerWire (mR 7 115) 0 [.ref 0, .int x, .int y, .int r, .retAddr 0] [] (pic (nI c) fil I L) Q := by
  unfold aRw at hw
  cases e : aWt c I x y with
  | none => rw [e] at hw; cases hw
  | some v =>
    rw [e] at hw
    dsimp only at hw
    obtain ⟨w1, w2, w3⟩ := aWt_some hc e
    by_cases q1 : r < 0
    · rw [if_pos q1] at hw; cases hw
    by_cases q2 : r < I 13 v
    · rw [if_neg q1, if_neg (fun z => z q2)] at hw
      cases hw
      refine mx_aload_n dA_registerWire_0 rfl ?_
      refine mx_iload_n dA_registerWire_1 rfl ?_
      refine mx_iload_n dA_registerWire_2 rfl ?_
      refine mx_V1 (R' := (mR 6 92)) [_, _] _ dA_registerWire_3 rfl mT_G jA_wireTo_ok jA_wireTo_v lkA_114 ⟨rfl, rfl, Nat.le_of_ble_eq_true rfl, Nat.le_of_ble_eq_true rfl⟩ rfl rfl (Nat.le_of_ble_eq_true rfl) (Nat.le_of_ble_eq_true rfl) rfl rfl rfl (fun Qc qc => cA_wireTo hc e qc) ?_
      refine mx_istore dA_registerWire_6 (Nat.le_of_ble_eq_true rfl) rfl ?_
      refine mx_iload_n dA_registerWire_8 rfl ?_
      refine mx_if_lt 25 dA_registerWire_9 rfl (fun h9 => ?_) (fun h9 => ?_)
      · exact absurd h9 q1
      refine mx_iload_n dA_registerWire_12 rfl ?_
      refine mx_aload_n dA_registerWire_13 rfl ?_
      refine mx_get 0 1 dA_registerWire_14 fgA_19 rfl rfl ?_
      refine mx_iload dA_registerWire_17 rfl ?_
      refine mx_V1 (R' := (mR 0 0)) [_] _ dA_registerWire_19 rfl mT_G jB_length_ok jB_length_v lkA_117 ⟨rfl, rfl, Nat.le_of_ble_eq_true rfl, Nat.le_of_ble_eq_true rfl⟩ rfl rfl (Nat.le_of_ble_eq_true rfl) (Nat.le_of_ble_eq_true rfl) rfl rfl rfl (fun Qc qc => cB_length pic_B (vp_in_nI (by omega) (by decide)) qc) ?_
      rw [nI_clamp (by omega)]
      refine mx_icmp_lt 33 dA_registerWire_22 rfl (fun h22 => ?_) (fun h22 => ?_)
      rotate_left
      · exact absurd q2 h22
      refine mx_iload dA_registerWire_33 rfl ?_
      refine mx_iret dA_registerWire_35 rfl rfl ?_
      exact hQ
    · rw [if_neg q1, if_pos q2] at hw; cases hw
theorem cA_registerWireT {c : Nat} {fil : Int32} {I : Nat → Nat → Int32} {L : Nat → Nat → Int64} {Q : mx_O → List va_E → Prop} (hc : c ≤ 12) {x y r : Int32} (hw : aRw c I x y r = none) (hQ : Q (.inr 2) (pic (nI c) fil I L)) : mx_W mx_K mT mCl jA_registerWire (mRT 7 115) 0 [.ref 0, .int x, .int y, .int r, .retAddr 0] [] (pic (nI c) fil I L) Q := by
  unfold aRw at hw
  cases e : aWt c I x y with
  | none =>
    refine mx_aload_n dA_registerWire_0 rfl ?_
    refine mx_iload_n dA_registerWire_1 rfl ?_
    refine mx_iload_n dA_registerWire_2 rfl ?_
    refine mx_VT1 (R' := (mRT 6 92)) [_, _] _ dA_registerWire_3 rfl mT_G jA_wireTo_ok jA_wireTo_v (mT_2 (i := 171) rfl rfl) ⟨Nat.le_of_ble_eq_true rfl, Nat.le_of_ble_eq_true rfl, Nat.le_of_ble_eq_true rfl, Nat.le_of_ble_eq_true rfl⟩ rfl rfl (Nat.le_of_ble_eq_true rfl) (Nat.le_of_ble_eq_true rfl) rfl rfl rfl (fun Qc qc => cA_wireToT hc e qc) ?_
    exact hQ
  | some v =>
    rw [e] at hw
    dsimp only at hw
    obtain ⟨w1, w2, w3⟩ := aWt_some hc e
    refine mx_aload_n dA_registerWire_0 rfl ?_
    refine mx_iload_n dA_registerWire_1 rfl ?_
    refine mx_iload_n dA_registerWire_2 rfl ?_
    refine mx_V1 (R' := (mR 6 92)) [_, _] _ dA_registerWire_3 rfl mT_G jA_wireTo_ok jA_wireTo_v lkA_114 ⟨rfl, rfl, Nat.le_of_ble_eq_true rfl, Nat.le_of_ble_eq_true rfl⟩ rfl rfl (Nat.le_of_ble_eq_true rfl) (Nat.le_of_ble_eq_true rfl) rfl rfl rfl (fun Qc qc => cA_wireTo hc e qc) ?_
    refine mx_istore dA_registerWire_6 (Nat.le_of_ble_eq_true rfl) rfl ?_
    refine mx_iload_n dA_registerWire_8 rfl ?_
    refine mx_if_lt 25 dA_registerWire_9 rfl (fun h9 => ?_) (fun h9 => ?_)
    · refine mx_throw 2 dA_registerWire_25 dA_registerWire_28 dA_registerWire_29 dA_registerWire_32 mT_G (mT_2 (i := 127) rfl rfl) (mT_2 (i := 128) rfl rfl) (mT_1 (i := 16) rfl rfl) (by decide +kernel) (tw_of tw_89) (Nat.le_of_ble_eq_true rfl) (Nat.le_of_ble_eq_true rfl) (Nat.le_refl _) (Nat.le_refl _) ?_
      exact hQ
    · refine mx_iload_n dA_registerWire_12 rfl ?_
      refine mx_aload_n dA_registerWire_13 rfl ?_
      refine mx_get 0 1 dA_registerWire_14 fgA_19 rfl rfl ?_
      refine mx_iload dA_registerWire_17 rfl ?_
      refine mx_V1 (R' := (mR 0 0)) [_] _ dA_registerWire_19 rfl mT_G jB_length_ok jB_length_v lkA_117 ⟨rfl, rfl, Nat.le_of_ble_eq_true rfl, Nat.le_of_ble_eq_true rfl⟩ rfl rfl (Nat.le_of_ble_eq_true rfl) (Nat.le_of_ble_eq_true rfl) rfl rfl rfl (fun Qc qc => cB_length pic_B (vp_in_nI (by omega) (by decide)) qc) ?_
      rw [nI_clamp (by omega)]
      refine mx_icmp_lt 33 dA_registerWire_22 rfl (fun h22 => ?_) (fun h22 => ?_)
      · refine mx_iload dA_registerWire_33 rfl ?_
        refine mx_iret dA_registerWire_35 rfl rfl ?_
        rw [if_neg h9, if_neg (fun z => z h22)] at hw
        cases hw
      · refine mx_throw 2 dA_registerWire_25 dA_registerWire_28 dA_registerWire_29 dA_registerWire_32 mT_G (mT_2 (i := 127) rfl rfl) (mT_2 (i := 128) rfl rfl) (mT_1 (i := 16) rfl rfl) (by decide +kernel) (tw_of tw_89) (Nat.le_of_ble_eq_true rfl) (Nat.le_of_ble_eq_true rfl) (Nat.le_refl _) (Nat.le_refl _) ?_
        exact hQ
