/-! Forgetting a local; the whole picture; Plan.hasAllPins, isComplete, addGate. -/
theorem mx_drop {K : Nat → Addr → State → State → Prop} {T : List Cond} {cl : List vw_C} {J : mx_J} {R : Room} {k : Nat} {ls st : List Value} {hp : List va_E} {Q : mx_O → List va_E → Prop} (i : Nat) (kk : mx_W K T cl J R k (ls.set i (.retAddr 0)) st hp Q) : mx_W K T cl J R k ls st hp Q := by
  intro l p e s m args below meth c D dT q A H locs lsA hC hl hP hD hS
  refine kk l p e s m args below meth c D dT q A H locs lsA hC (mx_has_mono hl (fun x hx => ?_)) hP hD hS
  obtain ⟨v, h1, h2, h3⟩ := mx_l_mem.mp hx
  refine mx_l_mem.mpr ⟨v, ?_, h2, h3⟩
  rw [List.getElem?_set] at h1
  by_cases e : i = x.1
  · rw [if_pos e] at h1
    split at h1
    · exact absurd (Option.some.inj h1).symm (h2 0)
    · cases h1
  · rw [if_neg e] at h1
    exact h1
def lp {α : Type} (f : Nat → α → α) : Nat → α → α
  | 0, s => s
  | n + 1, s => f n (lp f n s)
def upI (I : Nat → Nat → Int32) (k : Nat) (f : Nat → Int32) : Nat → Nat → Int32 := fun j => if j = k then f else I j
def upL (L : Nat → Nat → Int64) (k : Nat) (f : Nat → Int64) : Nat → Nat → Int64 := fun j => if j = k then f else L j
theorem upI_own (I : Nat → Nat → Int32) (k : Nat) : upI I k (I k) = I := by
  funext j; unfold upI; by_cases h : j = k <;> simp [h]
theorem upL_own (L : Nat → Nat → Int64) (k : Nat) : upL L k (L k) = L := by
  funext j; unfold upL; by_cases h : j = k <;> simp [h]
theorem upI_self (I : Nat → Nat → Int32) (k : Nat) (f : Nat → Int32) : upI I k f k = f := if_pos rfl
theorem upI_ne (I : Nat → Nat → Int32) {k j : Nat} (f : Nat → Int32) (h : j ≠ k) : upI I k f j = I j := if_neg h
theorem upI_upI (I : Nat → Nat → Int32) (k : Nat) (f g : Nat → Int32) : upI (upI I k f) k g = upI I k g := by
  funext j; unfold upI; by_cases h : j = k <;> simp [h]
theorem upL_upL (I : Nat → Nat → Int64) (k : Nat) (f g : Nat → Int64) : upL (upL I k f) k g = upL I k g := by
  funext j; unfold upL; by_cases h : j = k <;> simp [h]
theorem upI_comm (I : Nat → Nat → Int32) {k j : Nat} (f g : Nat → Int32) (h : k ≠ j) : upI (upI I k f) j g = upI (upI I j g) k f := by
  funext i; unfold upI; by_cases h1 : i = k <;> by_cases h2 : i = j <;> simp [h1, h2]
  · exact absurd (h1.symm.trans h2) h
  · intro e; exact absurd e h
  · intro e; exact absurd e.symm h
abbrev eI (n : Nat) (f : Nat → Int32) : va_E := .inl (0, n, .inl f)
abbrev eZ (n : Nat) (f : Nat → Int32) : va_E := .inl (2, n, .inl f)
abbrev eG (o : Nat) : va_E := .inl (3, 13, .inr (.inr (.inr (.inr (fun i => if i < 13 then some (o + i) else none)))))
/-- the whole picture: 0 the object; 1 Plan; 2 bank; 3 trial; 4 Order; 5 Paths; 6 Limits; 7 Mover; 8 Clock; 9 latest; rows behind them; 26 .. 38 least, 39 .. 51 longest, 52 .. 64 most -/
def pic (cnt fil : Int32) (I : Nat → Nat → Int32) (L : Nat → Nat → Int64) : List va_E := [.inr (0, [.ref 1, .ref 2, .ref 3, .ref 4, .ref 5, .ref 6, .ref 7, .ref 8, .ref 9]), .inr (1, [.int cnt, .ref 10, .ref 11, .ref 12]), .inr (2, [.ref 13, .ref 14]), .inr (2, [.ref 15, .ref 16]), .inr (3, [.ref 17, .ref 18, .int fil]), .inr (4, [.ref 19, .ref 20]), .inr (5, [.ref 21, .ref 22]), .inr (6, [.ref 23]), .inr (7, [.ref 24, .ref 25]), eI 13 (I 9), eI 13 (I 10), eI 13 (I 11), eI 27 (I 12), eI 27 (I 13), eV (L 14), eI 27 (I 15), eV (L 16), eI 12 (I 17), eZ 13 (I 18), eG 26, eG 39, eI 13 (I 21), eG 52, eI 13 (I 23), .inr (2, [.ref 65, .ref 66]), eI 16 (I 25), eI 13 (I 26), eI 13 (I 27), eI 13 (I 28), eI 13 (I 29), eI 13 (I 30), eI 13 (I 31), eI 13 (I 32), eI 13 (I 33), eI 13 (I 34), eI 13 (I 35), eI 13 (I 36), eI 13 (I 37), eI 13 (I 38), eI 13 (I 39), eI 13 (I 40), eI 13 (I 41), eI 13 (I 42), eI 13 (I 43), eI 13 (I 44), eI 13 (I 45), eI 13 (I 46), eI 13 (I 47), eI 13 (I 48), eI 13 (I 49), eI 13 (I 50), eI 13 (I 51), eI 13 (I 52), eI 13 (I 53), eI 13 (I 54), eI 13 (I 55), eI 13 (I 56), eI 13 (I 57), eI 13 (I 58), eI 13 (I 59), eI 13 (I 60), eI 13 (I 61), eI 13 (I 62), eI 13 (I 63), eI 13 (I 64), eI 27 (I 65), eV (L 66)]
section PIC
variable {cnt fil : Int32} {I : Nat → Nat → Int32} {L : Nat → Nat → Int64}
theorem pic_P : pP (pic cnt fil I L) 1 10 11 12 cnt (I 10) (I 11) (I 12) := ⟨rfl, rfl, rfl, rfl⟩
theorem pic_B : pB (pic cnt fil I L) 2 13 14 (I 13) (L 14) := ⟨rfl, rfl, rfl⟩
theorem pic_T : pB (pic cnt fil I L) 3 15 16 (I 15) (L 16) := ⟨rfl, rfl, rfl⟩
theorem pic_S : pB (pic cnt fil I L) 24 65 66 (I 65) (L 66) := ⟨rfl, rfl, rfl⟩
theorem pic_cnt (x : Int32) : (pic cnt fil I L).set 1 (.inr (1, [.int x, .ref 10, .ref 11, .ref 12])) = pic x fil I L := rfl
theorem pic_fil (x : Int32) : (pic cnt fil I L).set 4 (.inr (3, [.ref 17, .ref 18, .int x])) = pic cnt x I L := rfl
theorem pic_9 (f : Nat → Int32) : (pic cnt fil I L).set 9 (eI 13 f) = pic cnt fil (upI I 9 f) L := rfl
theorem pic_10 (f : Nat → Int32) : (pic cnt fil I L).set 10 (eI 13 f) = pic cnt fil (upI I 10 f) L := rfl
theorem pic_11 (f : Nat → Int32) : (pic cnt fil I L).set 11 (eI 13 f) = pic cnt fil (upI I 11 f) L := rfl
theorem pic_12 (f : Nat → Int32) : (pic cnt fil I L).set 12 (eI 27 f) = pic cnt fil (upI I 12 f) L := rfl
theorem pic_13 (f : Nat → Int32) : (pic cnt fil I L).set 13 (eI 27 f) = pic cnt fil (upI I 13 f) L := rfl
theorem pic_15 (f : Nat → Int32) : (pic cnt fil I L).set 15 (eI 27 f) = pic cnt fil (upI I 15 f) L := rfl
theorem pic_17 (f : Nat → Int32) : (pic cnt fil I L).set 17 (eI 12 f) = pic cnt fil (upI I 17 f) L := rfl
theorem pic_21 (f : Nat → Int32) : (pic cnt fil I L).set 21 (eI 13 f) = pic cnt fil (upI I 21 f) L := rfl
theorem pic_23 (f : Nat → Int32) : (pic cnt fil I L).set 23 (eI 13 f) = pic cnt fil (upI I 23 f) L := rfl
theorem pic_25 (f : Nat → Int32) : (pic cnt fil I L).set 25 (eI 16 f) = pic cnt fil (upI I 25 f) L := rfl
theorem pic_65 (f : Nat → Int32) : (pic cnt fil I L).set 65 (eI 27 f) = pic cnt fil (upI I 65 f) L := rfl
theorem pic_18 (f : Nat → Int32) : (pic cnt fil I L).set 18 (eZ 13 f) = pic cnt fil (upI I 18 f) L := rfl
theorem pic_14 (f : Nat → Int64) : (pic cnt fil I L).set 14 (eV f) = pic cnt fil I (upL L 14 f) := rfl
theorem pic_16 (f : Nat → Int64) : (pic cnt fil I L).set 16 (eV f) = pic cnt fil I (upL L 16 f) := rfl
theorem pic_66 (f : Nat → Int64) : (pic cnt fil I L).set 66 (eV f) = pic cnt fil I (upL L 66 f) := rfl
theorem pic_row {k : Nat} (h1 : 26 ≤ k) (h2 : k < 65) : (pic cnt fil I L)[k]? = some (eI 13 (I k)) := by
  obtain ⟨j, rfl⟩ : ∃ j, k = j + 26 := ⟨k - 26, by omega⟩
  have hj : j < 39 := by omega
  match j, hj with
  | 0, _ => rfl
  | 1, _ => rfl
  | 2, _ => rfl
  | 3, _ => rfl
  | 4, _ => rfl
  | 5, _ => rfl
  | 6, _ => rfl
  | 7, _ => rfl
  | 8, _ => rfl
  | 9, _ => rfl
  | 10, _ => rfl
  | 11, _ => rfl
  | 12, _ => rfl
  | 13, _ => rfl
  | 14, _ => rfl
  | 15, _ => rfl
  | 16, _ => rfl
  | 17, _ => rfl
  | 18, _ => rfl
  | 19, _ => rfl
  | 20, _ => rfl
  | 21, _ => rfl
  | 22, _ => rfl
  | 23, _ => rfl
  | 24, _ => rfl
  | 25, _ => rfl
  | 26, _ => rfl
  | 27, _ => rfl
  | 28, _ => rfl
  | 29, _ => rfl
  | 30, _ => rfl
  | 31, _ => rfl
  | 32, _ => rfl
  | 33, _ => rfl
  | 34, _ => rfl
  | 35, _ => rfl
  | 36, _ => rfl
  | 37, _ => rfl
  | 38, _ => rfl
  | j + 39, h => exact absurd h (by omega)
theorem pic_srow {k : Nat} (h1 : 26 ≤ k) (h2 : k < 65) (f : Nat → Int32) : (pic cnt fil I L).set k (eI 13 f) = pic cnt fil (upI I k f) L := by
  obtain ⟨j, rfl⟩ : ∃ j, k = j + 26 := ⟨k - 26, by omega⟩
  have hj : j < 39 := by omega
  match j, hj with
  | 0, _ => rfl
  | 1, _ => rfl
  | 2, _ => rfl
  | 3, _ => rfl
  | 4, _ => rfl
  | 5, _ => rfl
  | 6, _ => rfl
  | 7, _ => rfl
  | 8, _ => rfl
  | 9, _ => rfl
  | 10, _ => rfl
  | 11, _ => rfl
  | 12, _ => rfl
  | 13, _ => rfl
  | 14, _ => rfl
  | 15, _ => rfl
  | 16, _ => rfl
  | 17, _ => rfl
  | 18, _ => rfl
  | 19, _ => rfl
  | 20, _ => rfl
  | 21, _ => rfl
  | 22, _ => rfl
  | 23, _ => rfl
  | 24, _ => rfl
  | 25, _ => rfl
  | 26, _ => rfl
  | 27, _ => rfl
  | 28, _ => rfl
  | 29, _ => rfl
  | 30, _ => rfl
  | 31, _ => rfl
  | 32, _ => rfl
  | 33, _ => rfl
  | 34, _ => rfl
  | 35, _ => rfl
  | 36, _ => rfl
  | 37, _ => rfl
  | 38, _ => rfl
  | j + 39, h => exact absurd h (by omega)
end PIC
def pn (kd : Nat → Int32) (g : Nat) : Nat := if 1 < kd g then 2 else 1
theorem pn_le (kd : Nat → Int32) (g : Nat) : 1 ≤ pn kd g ∧ pn kd g ≤ 2 := by unfold pn; split <;> omega
theorem fp_nat {g : Nat} (h : 1 ≤ g) : qP_firstPin (nI g) = nI (2 * g - 2) := by
  unfold qP_firstPin
  rw [show (1 : Int32) = nI 1 from rfl, pk_sub h, show (2 : Int32) = nI 2 from rfl, pk_mul]
  congr 1
  omega
theorem pn_nat {kd : Nat → Int32} {g : Nat} (h : g < 100) : qP_pinsOf kd (nI g) = nI (pn kd g) := by
  unfold qP_pinsOf pn
  rw [nI_clamp (by omega)]
  split <;> rfl
theorem ep_nat {kd : Nat → Int32} {g : Nat} (h1 : 1 ≤ g) (h2 : g < 100) : qP_firstPin (nI g) + qP_pinsOf kd (nI g) = nI (2 * g - 2 + pn kd g) := by rw [fp_nat h1, pn_nat h2, nI_add]
def allPins (kd sr : Nat → Int32) (g : Nat) : Bool := allB (pn kd g) (fun k => decide (¬ sr (2 * g - 2 + k) = 0))
theorem cP_hasAllPins {hp : List va_E} {b k1 k2 k3 : Nat} {cnt : Int32} {kd cs sr : Nat → Int32} {Q : mx_O → List va_E → Prop} (h : pP hp b k1 k2 k3 cnt kd cs sr) {g : Nat} (g1 : 1 ≤ g) (g2 : g ≤ 12) (hQ : Q (.inl (some (.int (i01 (allPins kd sr g))))) (hp)) : mx_W mx_K mT mCl jP_hasAllPins (mR 2 42) 0 [.ref b, .int (nI g), .retAddr 0] [] hp Q := by
  have hg : vp_in (nI g) 13 := vp_in_nI (by omega) (by decide)
  have hp2 := pn_le kd g
  have hloop : ∀ i, i ≤ pn kd g → (∀ j, j < i → ¬ sr (2 * g - 2 + j) = 0) → mx_W mx_K mT mCl jP_hasAllPins (mR 2 42) 6 [.ref b, .int (nI g), .int (nI (2 * g - 2 + i))] [] hp Q := by
    refine lp_down ?_ ?_
    · intro hno
      refine mx_iload_n dP_hasAllPins_6 rfl ?_
      refine mx_aload_n dP_hasAllPins_7 rfl ?_
      refine mx_iload_n dP_hasAllPins_8 rfl ?_
      refine mx_V1 (R' := (mR 1 21)) [_] _ dP_hasAllPins_9 rfl mT_G jP_endOfPins_ok jP_endOfPins_v lkP_51 ⟨rfl, rfl, Nat.le_of_ble_eq_true rfl, Nat.le_of_ble_eq_true rfl⟩ rfl rfl (Nat.le_of_ble_eq_true rfl) (Nat.le_of_ble_eq_true rfl) h.1 rfl rfl (fun Qc qc => cP_endOfPins h hg qc) ?_
      rw [ep_nat g1 (by omega)]
      refine mx_icmp_ge 32 dP_hasAllPins_12 rfl (fun h12 => ?_) (fun h12 => ?_)
      rotate_left
      · exact absurd (nI_le (Nat.le_refl _) (by omega)) h12
      refine mx_iconst (1) dP_hasAllPins_32 (by decide) ?_
      refine mx_iret dP_hasAllPins_33 rfl rfl ?_
      rw [i01_t (show allPins kd sr g = true from allB_iff.mpr (fun j hj => by simpa using hno j hj))] at hQ
      exact hQ
    · intro i hi ih hno
      refine mx_iload_n dP_hasAllPins_6 rfl ?_
      refine mx_aload_n dP_hasAllPins_7 rfl ?_
      refine mx_iload_n dP_hasAllPins_8 rfl ?_
      refine mx_V1 (R' := (mR 1 21)) [_] _ dP_hasAllPins_9 rfl mT_G jP_endOfPins_ok jP_endOfPins_v lkP_51 ⟨rfl, rfl, Nat.le_of_ble_eq_true rfl, Nat.le_of_ble_eq_true rfl⟩ rfl rfl (Nat.le_of_ble_eq_true rfl) (Nat.le_of_ble_eq_true rfl) h.1 rfl rfl (fun Qc qc => cP_endOfPins h hg qc) ?_
      rw [ep_nat g1 (by omega)]
      refine mx_icmp_ge 32 dP_hasAllPins_12 rfl (fun h12 => ?_) (fun h12 => ?_)
      · exact absurd h12 (nI_ge (by omega) (by omega))
      refine mx_aload_n dP_hasAllPins_15 rfl ?_
      refine mx_get 1 3 dP_hasAllPins_16 fgP_18 h.1 rfl ?_
      refine mx_iload_n dP_hasAllPins_19 rfl ?_
      refine mx_iald dP_hasAllPins_20 h.2.2.2 (vp_in_nI (by omega) (by decide)) ?_
      refine mx_if_ne 26 dP_hasAllPins_21 rfl (fun h21 => ?_) (fun h21 => ?_)
      · refine mx_iinc dP_hasAllPins_26 rfl (mx_inc _) (Nat.le_of_ble_eq_true rfl) rfl ?_
        refine mx_goto 6 dP_hasAllPins_29 rfl ?_
        rw [nI_clamp (by omega)] at h21
        refine ih (fun j hj => ?_)
        by_cases e : j = i
        · subst e; exact h21
        · exact hno j (by omega)
      · refine mx_iconst (0) dP_hasAllPins_24 (by decide) ?_
        refine mx_iret dP_hasAllPins_25 rfl rfl ?_
        rw [nI_clamp (by omega)] at h21
        rw [i01_f (show allPins kd sr g = false from allB_no hi (by simpa using h21))] at hQ
        exact hQ
  refine mx_aload_n dP_hasAllPins_0 rfl ?_
  refine mx_iload_n dP_hasAllPins_1 rfl ?_
  refine mx_V1 (R' := (mR 0 0)) [_] _ dP_hasAllPins_2 rfl mT_G jP_firstPin_ok jP_firstPin_v lkP_36 ⟨rfl, rfl, Nat.le_of_ble_eq_true rfl, Nat.le_of_ble_eq_true rfl⟩ rfl rfl (Nat.le_of_ble_eq_true rfl) (Nat.le_of_ble_eq_true rfl) h.1 rfl rfl (fun Qc qc => cP_firstPin qc) ?_
  rw [fp_nat g1]
  refine mx_istore_n dP_hasAllPins_5 (Nat.le_of_ble_eq_true rfl) rfl ?_
  exact hloop 0 (Nat.zero_le _) (fun j hj => absurd hj (Nat.not_lt_zero j))
def isCompl (c : Nat) (kd sr : Nat → Int32) : Bool := allB c (fun i => allPins kd sr (i + 1) && exB 27 (fun j => decide (sr j = nI (i + 1))))
theorem cP_isComplete {hp : List va_E} {b k1 k2 k3 : Nat} {c : Nat} {kd cs sr : Nat → Int32} {Q : mx_O → List va_E → Prop} (h : pP hp b k1 k2 k3 (nI c) kd cs sr) (hc : c ≤ 12) (hQ : Q (.inl (some (.int (i01 (isCompl c kd sr))))) (hp)) : mx_W mx_K mT mCl jP_isComplete (mR 3 64) 0 [.ref b, .retAddr 0] [] hp Q := by
  have hloop : ∀ i, i ≤ c → (∀ j, j < i → (allPins kd sr (j + 1) && exB 27 (fun w => decide (sr w = nI (j + 1)))) = true) → mx_W mx_K mT mCl jP_isComplete (mR 3 64) 2 [.ref b, .int (nI (i + 1))] [] hp Q := by
    refine lp_down ?_ ?_
    · intro hno
      refine mx_iload_n dP_isComplete_2 rfl ?_
      refine mx_aload_n dP_isComplete_3 rfl ?_
      refine mx_get 1 0 dP_isComplete_4 fgP_21 h.1 rfl ?_
      refine mx_icmp_gt 34 dP_isComplete_7 rfl (fun h7 => ?_) (fun h7 => ?_)
      rotate_left
      · exact absurd (nI_lt (Nat.lt_succ_self c) (by omega)) h7
      refine mx_iconst (1) dP_isComplete_34 (by decide) ?_
      refine mx_iret dP_isComplete_35 rfl rfl ?_
      rw [i01_t (show isCompl c kd sr = true from allB_iff.mpr (fun j hj => hno j hj))] at hQ
      exact hQ
    · intro i hi ih hno
      refine mx_iload_n dP_isComplete_2 rfl ?_
      refine mx_aload_n dP_isComplete_3 rfl ?_
      refine mx_get 1 0 dP_isComplete_4 fgP_21 h.1 rfl ?_
      refine mx_icmp_gt 34 dP_isComplete_7 rfl (fun h7 => ?_) (fun h7 => ?_)
      · exact absurd h7 (nI_nlt (by omega) (by omega))
      refine mx_aload_n dP_isComplete_10 rfl ?_
      refine mx_iload_n dP_isComplete_11 rfl ?_
      refine mx_V1 (R' := (mR 2 42)) [_] _ dP_isComplete_12 rfl mT_G jP_hasAllPins_ok jP_hasAllPins_v lkP_45 ⟨rfl, rfl, Nat.le_of_ble_eq_true rfl, Nat.le_of_ble_eq_true rfl⟩ rfl rfl (Nat.le_of_ble_eq_true rfl) (Nat.le_of_ble_eq_true rfl) h.1 rfl rfl (fun Qc qc => cP_hasAllPins h (by omega) (by omega) qc) ?_
      refine mx_if_eq 26 dP_isComplete_15 rfl (fun h15 => ?_) (fun h15 => ?_)
      · refine mx_iconst (0) dP_isComplete_26 (by decide) ?_
        refine mx_iret dP_isComplete_27 rfl rfl ?_
        have hf : ¬ (allPins kd sr (i + 1) && exB 27 (fun w => decide (sr w = nI (i + 1)))) = true := by
          intro hh
          obtain ⟨a1, a2⟩ := Bool.and_eq_true_iff.mp hh
          first | (rw [i01_t a1] at h15; exact absurd h15 (by decide)) | (rw [i01_t a2] at h23; exact absurd h23 (by decide))
        rw [i01_f (show isCompl c kd sr = false from allB_no hi hf)] at hQ
        exact hQ
      · refine mx_aload_n dP_isComplete_18 rfl ?_
        refine mx_iload_n dP_isComplete_19 rfl ?_
        refine mx_V1 (R' := (mR 0 0)) [_] _ dP_isComplete_20 rfl mT_G jP_isSource_ok jP_isSource_v lkP_48 ⟨rfl, rfl, Nat.le_of_ble_eq_true rfl, Nat.le_of_ble_eq_true rfl⟩ rfl rfl (Nat.le_of_ble_eq_true rfl) (Nat.le_of_ble_eq_true rfl) h.1 rfl rfl (fun Qc qc => cP_isSource h qc) ?_
        refine mx_if_ne 28 dP_isComplete_23 rfl (fun h23 => ?_) (fun h23 => ?_)
        · refine mx_iinc dP_isComplete_28 rfl (mx_inc _) (Nat.le_of_ble_eq_true rfl) rfl ?_
          refine mx_goto 2 dP_isComplete_31 rfl ?_
          refine ih (fun j hj => ?_)
          by_cases e : j = i
          · subst e
            refine Bool.and_eq_true_iff.mpr ⟨?_, ?_⟩
            · cases e1 : allPins kd sr (j + 1) with
              | true => rfl
              | false => exact absurd (i01_f e1) h15
            · cases e1 : exB 27 (fun w => decide (sr w = nI (j + 1))) with
              | true => rfl
              | false => exact absurd (i01_f e1) h23
          · exact hno j (by omega)
        · refine mx_iconst (0) dP_isComplete_26 (by decide) ?_
          refine mx_iret dP_isComplete_27 rfl rfl ?_
          have hf : ¬ (allPins kd sr (i + 1) && exB 27 (fun w => decide (sr w = nI (i + 1)))) = true := by
            intro hh
            obtain ⟨a1, a2⟩ := Bool.and_eq_true_iff.mp hh
            first | (rw [i01_t a1] at h15; exact absurd h15 (by decide)) | (rw [i01_t a2] at h23; exact absurd h23 (by decide))
          rw [i01_f (show isCompl c kd sr = false from allB_no hi hf)] at hQ
          exact hQ
  refine mx_iconst (1) dP_isComplete_0 (by decide) ?_
  refine mx_istore_n dP_isComplete_1 (Nat.le_of_ble_eq_true rfl) rfl ?_
  exact hloop 0 (Nat.zero_le _) (fun j hj => absurd hj (Nat.not_lt_zero j))
theorem cP_addGate {c : Nat} {fil x y : Int32} {I : Nat → Nat → Int32} {L : Nat → Nat → Int64} {Q : mx_O → List va_E → Prop} (hc : c < 12) (hQ : Q (.inl none) (pic (nI (c + 1)) fil (upI (upI I 10 (upd (I 10) (c + 1) x)) 11 (upd (I 11) (c + 1) y)) L)) : mx_W mx_K mT mCl jP_addGate (mR 0 0) 0 [.ref 1, .int x, .int y] [] (pic (nI c) fil I L) Q := by
  refine mx_aload_n dP_addGate_0 rfl ?_
  refine mx_dup dP_addGate_1 rfl ?_
  refine mx_get 1 0 dP_addGate_2 fgP_21 pic_P.1 rfl ?_
  refine mx_iconst (1) dP_addGate_5 (by decide) ?_
  refine mx_iadd dP_addGate_6 ?_
  refine mx_put 1 0 (.int) dP_addGate_7 fpP_21 pic_P.1 (Nat.le_of_ble_eq_true rfl) rfl rfl ?_
  rw [show nI c + 1 = nI (c + 1) from nI_1 c]
  refine mx_eqs rfl rfl rfl (pic_cnt (nI (c + 1))) ?_
  refine mx_aload_n dP_addGate_10 rfl ?_
  refine mx_get 1 1 dP_addGate_11 fgP_9 pic_P.1 rfl ?_
  refine mx_aload_n dP_addGate_14 rfl ?_
  refine mx_get 1 0 dP_addGate_15 fgP_21 pic_P.1 rfl ?_
  refine mx_iload_n dP_addGate_18 rfl ?_
  refine mx_iast dP_addGate_19 pic_P.2.1 (vp_in_nI (by omega) (by decide)) ?_
  refine mx_eqs rfl rfl rfl (pic_10 _) ?_
  refine mx_aload_n dP_addGate_20 rfl ?_
  refine mx_get 1 2 dP_addGate_21 fgP_15 pic_P.1 rfl ?_
  refine mx_aload_n dP_addGate_24 rfl ?_
  refine mx_get 1 0 dP_addGate_25 fgP_21 pic_P.1 rfl ?_
  refine mx_iload_n dP_addGate_28 rfl ?_
  refine mx_iast dP_addGate_29 pic_P.2.2.1 (vp_in_nI (by omega) (by decide)) ?_
  refine mx_vret dP_addGate_30 rfl ?_
  rw [nI_clamp (by omega)]
  exact hQ
