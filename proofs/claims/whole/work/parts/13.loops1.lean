/-! Contents beyond an array's length; Bank.copy, Bank.fill; Plan with loops; Clock.begin. -/
section MXE
variable {K : Nat → Addr → State → State → Prop} {T : List Cond} {cl : List vw_C} {J : mx_J} {R : Room} {k : Nat} {ls st : List Value} {hp : List va_E} {Q : mx_O → List va_E → Prop}
theorem mx_ext {b t : Nat} {u v : vp_A} (hb : hp[b]? = some (.inl (t, u))) (hfg : ∀ (q : Nat → Nat) (cA : ClassId), vp_cell cA (mx_a q u) = vp_cell cA (mx_a q v)) (kk : mx_W K T cl J R k ls st (hp.set b (.inl (t, v))) Q) : mx_W K T cl J R k ls st hp Q := by
  intro l p e s m args below meth c D dT q A H locs lsA hC hl hP hD hS
  have e1 := mx_w_set q dT hp b (.inl (t, v))
  have h0 := mx_w_get (q := q) (dT := dT) hb
  have hat : H[q b]? = some (vp_cell (dT t) (mx_a q u)) := hP b _ h0
  refine kk l p e s m args below meth c D dT q A H locs lsA hC hl ?_ ?_ hS
  · rw [← e1]
    refine hP.set hD h0 ?_ (fun _ _ => rfl)
    show H[q b]? = some (vp_cell (dT t) (mx_a q v))
    rw [← hfg q (dT t)]
    exact hat
  · rw [← e1]
    exact hD.set h0
end MXE
theorem mx_arr {cA : ClassId} {n : Nat} {f g : Nat → Value} (h : ∀ j, j < n → f j = g j) : arrV cA n f = arrV cA n g := by
  unfold arrV
  have : (fun j : Fin n => f j.val) = (fun j : Fin n => g j.val) := funext fun j => h j.val j.isLt
  rw [this]
theorem mx_fi {n : Nat} {f g : Nat → Int32} (h : ∀ j, j < n → f j = g j) : ∀ (q : Nat → Nat) (cA : ClassId), vp_cell cA (mx_a q (n, .inl f)) = vp_cell cA (mx_a q (n, .inl g)) := fun q cA => by
  show arrV cA n (fun j => .int (f j)) = arrV cA n (fun j => .int (g j))
  exact mx_arr (fun j hj => by rw [h j hj])
theorem mx_fl64 {n : Nat} {f g : Nat → Int64} (h : ∀ j, j < n → f j = g j) : ∀ (q : Nat → Nat) (cA : ClassId), vp_cell cA (mx_a q (n, .inr (.inl f))) = vp_cell cA (mx_a q (n, .inr (.inl g))) := fun q cA => by
  show arrV cA n (fun j => .long (f j)) = arrV cA n (fun j => .long (g j))
  exact mx_arr (fun j hj => by rw [h j hj])
theorem upd_upd (f : Nat → Int32) (k : Nat) (a b : Int32) : upd (upd f k a) k b = upd f k b := by
  funext j; unfold upd; by_cases h : j = k <;> simp [h]
theorem updL_updL (f : Nat → Int64) (k : Nat) (a b : Int64) : vp_updL (vp_updL f k a) k b = vp_updL f k b := by
  funext j; unfold vp_updL; by_cases h : j = k <;> simp [h]
theorem updL_own (f : Nat → Int64) (k : Nat) : vp_updL f k (f k) = f := by
  funext j; unfold vp_updL; by_cases h : j = k <;> simp [h]
theorem set_own {hp : List va_E} {k : Nat} {x : va_E} (h : hp[k]? = some x) : hp.set k x = hp := by
  apply List.ext_getElem?
  intro i
  by_cases e : k = i
  · subst e
    rw [List.getElem?_set_self (List.getElem?_eq_some_iff.mp h).1, h]
  · rw [List.getElem?_set_ne e]
theorem set4 {hp : List va_E} {a b : Nat} (h : a ≠ b) (x y z w : va_E) : (((hp.set a x).set b y).set b z).set a w = (hp.set a w).set b z := by
  rw [List.set_set, List.set_comm _ _ (Ne.symm h), List.set_set]
def bFill (v : Int64) : Nat → Int64
  | 0 => v
  | n + 1 => bWr (bFill v n) (nI n) 2
theorem cB_copy {hp : List va_E} {b kl kv : Nat} {ln : Nat → Int32} {vl : Nat → Int64} {Q : mx_O → List va_E → Prop} (h : pB hp b kl kv ln vl) {b2 kl2 kv2 : Nat} {ln2 : Nat → Int32} {vl2 : Nat → Int64} (h2 : pB hp b2 kl2 kv2 ln2 vl2) (n1 : kl2 ≠ kl) (n2 : kv2 ≠ kv) (hQ : Q (.inl none) ((hp.set kl (eL ln2)).set kv (eV vl2))) : mx_W mx_K mT mCl jB_copy (mR 1 60) 0 [.ref b, .ref b2] [] hp Q := by
  have g1 := pB_l h (va_cpy ln2 ln 0 0 27)
  have g2 : hp[kl2]? = some (eL ln2) := h2.2.1
  obtain ⟨x1, x2, x3⟩ := pB_ne h
  obtain ⟨y1, y2, y3⟩ := pB_ne h2
  have z1 : kl ≠ b2 := fun e => by have := h.2.1; rw [e, h2.1] at this; cases this
  have z2 : kl ≠ kv2 := fun e => by
    have h9 := h.2.1
    rw [e, h2.2.2] at h9
    have := congrArg (fun z : Option va_E => match z with | some (.inl (t, _)) => t | _ => 9) h9
    simp at this
  have g3 : (hp.set kl (eL (va_cpy ln2 ln 0 0 27)))[b2]? = some (.inr (2, [.ref kl2, .ref kv2])) := by rw [List.getElem?_set_ne z1]; exact h2.1
  have g4 : (hp.set kl (eL (va_cpy ln2 ln 0 0 27)))[kv2]? = some (eV vl2) := by rw [List.getElem?_set_ne z2]; exact h2.2.2
  have g5 := pB_v g1 (va_cpy vl2 vl 0 0 27)
  refine mx_aload_n dB_copy_0 rfl ?_
  refine mx_get 2 0 dB_copy_1 fgB_9 h2.1 rfl ?_
  refine mx_iconst (0) dB_copy_4 (by decide) ?_
  refine mx_aload_n dB_copy_5 rfl ?_
  refine mx_get 2 0 dB_copy_6 fgB_9 h.1 rfl ?_
  refine mx_iconst (0) dB_copy_9 (by decide) ?_
  refine mx_bipush (27) dB_copy_10 (by decide) ?_
  refine mx_copyi dB_copy_12 (mT_2 (i := 13) rfl rfl) (mT_2 (i := 15) rfl rfl) (mT_2 (i := 14) rfl rfl) (mT_1 (i := 15) rfl rfl) h2.2.1 h.2.1 (by decide) (by decide) (by decide) (by decide) (by decide) (Nat.le_of_ble_eq_true rfl) (Nat.le_of_ble_eq_true rfl) ?_
  refine mx_aload_n dB_copy_15 rfl ?_
  refine mx_get 2 1 dB_copy_16 fgB_15 g3 rfl ?_
  refine mx_iconst (0) dB_copy_19 (by decide) ?_
  refine mx_aload_n dB_copy_20 rfl ?_
  refine mx_get 2 1 dB_copy_21 fgB_15 g1.1 rfl ?_
  refine mx_iconst (0) dB_copy_24 (by decide) ?_
  refine mx_bipush (27) dB_copy_25 (by decide) ?_
  refine mx_copyl dB_copy_27 (mT_2 (i := 13) rfl rfl) (mT_2 (i := 15) rfl rfl) (mT_2 (i := 14) rfl rfl) (mT_1 (i := 15) rfl rfl) g4 g1.2.2 (by decide) (by decide) (by decide) (by decide) (by decide) (Nat.le_of_ble_eq_true rfl) (Nat.le_of_ble_eq_true rfl) ?_
  refine mx_ext (v := (27, .inl ln2)) g5.2.1 (mx_fi (fun j hj => by rw [pk_cpy_in (Nat.zero_le _) (by omega)]; congr 1; omega)) ?_
  refine mx_ext (v := (27, .inr (.inl vl2))) (pB_l g5 ln2).2.2 (mx_fl64 (fun j hj => by rw [pk_cpy_in (Nat.zero_le _) (by omega)]; congr 1; omega)) ?_
  refine mx_vret dB_copy_30 rfl ?_
  rw [List.set_comm _ _ (Ne.symm x3), List.set_set, List.set_set]
  exact hQ
theorem cB_fill {hp : List va_E} {b kl kv : Nat} {ln : Nat → Int32} {vl : Nat → Int64} {Q : mx_O → List va_E → Prop} (h : pB hp b kl kv ln vl) {w : Int32} {r : Nat} (hw : vp_in w 27) (hr : r < 100) (hQ : Q (.inl none) ((hp.set kl (eL (upd ln w.toNatClampNeg (nI r)))).set kv (eV (vp_updL vl w.toNatClampNeg (bFill (vl w.toNatClampNeg) r))))) : mx_W mx_K mT mCl jB_fill (mR 2 47) 0 [.ref b, .int w, .int (nI r), .retAddr 0] [] hp Q := by
  have hloop : ∀ i, i ≤ r → mx_W mx_K mT mCl jB_fill (mR 2 47) 9 [.ref b, .int w, .int (nI r), .int (nI i)] [] ((hp.set kl (eL (upd ln w.toNatClampNeg (nI i)))).set kv (eV (vp_updL vl w.toNatClampNeg (bFill (vl w.toNatClampNeg) i)))) Q := by
    refine lp_down ?_ ?_
    · refine mx_iload_n dB_fill_9 rfl ?_
      refine mx_iload_n dB_fill_10 rfl ?_
      refine mx_icmp_ge 26 dB_fill_11 rfl (fun h11 => ?_) (fun h11 => ?_)
      rotate_left
      · exact absurd (nI_le (Nat.le_refl r) (by omega)) h11
      refine mx_vret dB_fill_26 rfl ?_
      exact hQ
    · intro i hi ih
      have hi2 := pB_v (pB_l h (upd ln w.toNatClampNeg (nI i))) (vp_updL vl w.toNatClampNeg (bFill (vl w.toNatClampNeg) i))
      refine mx_iload_n dB_fill_9 rfl ?_
      refine mx_iload_n dB_fill_10 rfl ?_
      refine mx_icmp_ge 26 dB_fill_11 rfl (fun h11 => ?_) (fun h11 => ?_)
      · exact absurd h11 (nI_ge hi (by omega))
      refine mx_aload_n dB_fill_14 rfl ?_
      refine mx_iload_n dB_fill_15 rfl ?_
      refine mx_iconst (2) dB_fill_16 (by decide) ?_
      refine mx_V1 (R' := (mR 1 25)) [_, _] _ dB_fill_17 rfl mT_G jB_putAtSource_ok jB_putAtSource_v lkB_23 ⟨rfl, rfl, Nat.le_of_ble_eq_true rfl, Nat.le_of_ble_eq_true rfl⟩ rfl rfl (Nat.le_of_ble_eq_true rfl) (Nat.le_of_ble_eq_true rfl) hi2.1 rfl rfl (fun Qc qc => cB_putAtSource hi2 hw qc) ?_
      refine mx_iinc dB_fill_20 rfl (mx_inc i) (Nat.le_of_ble_eq_true rfl) rfl ?_
      refine mx_goto 9 dB_fill_23 rfl ?_
      refine mx_eqs rfl rfl rfl ?_ ih
      rw [set4 (pB_ne h).2.2, updL_updL, upd_upd, pk_us, pk_uLs, nI_1]
      rfl
  have h0 := pB_l h (upd ln w.toNatClampNeg (nI 0))
  refine mx_aload_n dB_fill_0 rfl ?_
  refine mx_get 2 0 dB_fill_1 fgB_9 h.1 rfl ?_
  refine mx_iload_n dB_fill_4 rfl ?_
  refine mx_iconst (0) dB_fill_5 (by decide) ?_
  refine mx_iast dB_fill_6 h.2.1 hw ?_
  refine mx_iconst (0) dB_fill_7 (by decide) ?_
  refine mx_istore_n dB_fill_8 (Nat.le_of_ble_eq_true rfl) rfl ?_
  refine mx_eqs rfl rfl rfl ?_ (hloop 0 (Nat.zero_le _))
  show hp.set kl (eL (upd ln w.toNatClampNeg (nI 0))) = _
  rw [show bFill (vl w.toNatClampNeg) 0 = vl w.toNatClampNeg from rfl, updL_own, set_own h0.2.2]
theorem cC_begin {hp : List va_E} {b bs kv0 kl kv b2 kl2 kv2 : Nat} {ln ln2 : Nat → Int32} {vl vl2 : Nat → Int64} {Q : mx_O → List va_E → Prop} (hb : hp[b]? = some (.inr (7, [.ref bs, .ref kv0]))) (h : pB hp bs kl kv ln vl) (h2 : pB hp b2 kl2 kv2 ln2 vl2) (n1 : kl2 ≠ kl) (n2 : kv2 ≠ kv) (hQ : Q (.inl none) ((hp.set kl (eL ln2)).set kv (eV vl2))) : mx_W mx_K mT mCl jC_begin (mR 2 81) 0 [.ref b, .ref b2] [] hp Q := by
  refine mx_aload_n dC_begin_0 rfl ?_
  refine mx_get 7 0 dC_begin_1 fgC_12 hb rfl ?_
  refine mx_aload_n dC_begin_4 rfl ?_
  refine mx_V1 (R' := (mR 1 60)) [_] _ dC_begin_5 rfl mT_G jB_copy_ok jB_copy_v lkC_22 ⟨rfl, rfl, Nat.le_of_ble_eq_true rfl, Nat.le_of_ble_eq_true rfl⟩ rfl rfl (Nat.le_of_ble_eq_true rfl) (Nat.le_of_ble_eq_true rfl) h.1 rfl rfl (fun Qc qc => cB_copy h h2 n1 n2 qc) ?_
  refine mx_vret dC_begin_8 rfl ?_
  exact hQ
def exB (n : Nat) (p : Nat → Bool) : Bool := (List.range n).any p
def allB (n : Nat) (p : Nat → Bool) : Bool := (List.range n).all p
theorem exB_iff {n : Nat} {p : Nat → Bool} : exB n p = true ↔ ∃ j, j < n ∧ p j = true := by simp [exB]
theorem allB_iff {n : Nat} {p : Nat → Bool} : allB n p = true ↔ ∀ j, j < n → p j = true := by simp [allB]
theorem exB_no {n : Nat} {p : Nat → Bool} (h : ∀ j, j < n → ¬ p j = true) : exB n p = false := by
  cases e : exB n p with
  | false => rfl
  | true => obtain ⟨j, h1, h2⟩ := exB_iff.mp e; exact absurd h2 (h j h1)
theorem allB_no {n j : Nat} {p : Nat → Bool} (hj : j < n) (h : ¬ p j = true) : allB n p = false := by
  cases e : allB n p with
  | false => rfl
  | true => exact absurd (allB_iff.mp e j hj) h
def i01 (b : Bool) : Int32 := if b then 1 else 0
theorem i01_t {b : Bool} (h : b = true) : i01 b = 1 := by rw [h]; rfl
theorem i01_f {b : Bool} (h : b = false) : i01 b = 0 := by rw [h]; rfl
def eK (f : Nat → Int32) : va_E := .inl (0, 13, .inl f)
theorem cP_isSource {hp : List va_E} {b k1 k2 k3 : Nat} {cnt : Int32} {kd cs sr : Nat → Int32} {Q : mx_O → List va_E → Prop} (h : pP hp b k1 k2 k3 (cnt) kd cs sr) {x : Int32} (hQ : Q (.inl (some (.int (i01 (exB 27 (fun j => decide (sr j = x))))))) (hp)) : mx_W mx_K mT mCl jP_isSource (mR 0 0) 0 [.ref b, .int x, .retAddr 0] [] hp Q := by
  have hloop : ∀ i, i ≤ 27 → (∀ j, j < i → ¬ sr j = x) → mx_W mx_K mT mCl jP_isSource (mR 0 0) 2 [.ref b, .int x, .int (nI i)] [] hp Q := by
    refine lp_down ?_ ?_
    · intro hno
      refine mx_iload_n dP_isSource_2 rfl ?_
      refine mx_bipush (27) dP_isSource_3 (by decide) ?_
      refine mx_icmp_ge 26 dP_isSource_5 rfl (fun h5 => ?_) (fun h5 => ?_)
      rotate_left
      · exact absurd (show (27 : Int32) ≤ nI 27 by decide) h5
      refine mx_iconst (0) dP_isSource_26 (by decide) ?_
      refine mx_iret dP_isSource_27 rfl rfl ?_
      rw [i01_f (exB_no (fun j hj => by simpa using hno j hj))] at hQ
      exact hQ
    · intro i hi ih hno
      refine mx_iload_n dP_isSource_2 rfl ?_
      refine mx_bipush (27) dP_isSource_3 (by decide) ?_
      refine mx_icmp_ge 26 dP_isSource_5 rfl (fun h5 => ?_) (fun h5 => ?_)
      · exact absurd h5 (nI_ge (b := 27) hi (by decide))
      refine mx_aload_n dP_isSource_8 rfl ?_
      refine mx_get 1 3 dP_isSource_9 fgP_18 h.1 rfl ?_
      refine mx_iload_n dP_isSource_12 rfl ?_
      refine mx_iald dP_isSource_13 h.2.2.2 (vp_in_nI hi (by decide)) ?_
      refine mx_iload_n dP_isSource_14 rfl ?_
      refine mx_icmp_ne 20 dP_isSource_15 rfl (fun h15 => ?_) (fun h15 => ?_)
      · refine mx_iinc dP_isSource_20 rfl (mx_inc i) (Nat.le_of_ble_eq_true rfl) rfl ?_
        refine mx_goto 2 dP_isSource_23 rfl ?_
        refine ih (fun j hj => ?_)
        by_cases e : j = i
        · subst e; rw [nI_clamp (by omega)] at h15; exact h15
        · exact hno j (by omega)
      · refine mx_iconst (1) dP_isSource_18 (by decide) ?_
        refine mx_iret dP_isSource_19 rfl rfl ?_
        rw [nI_clamp (by omega)] at h15
        rw [i01_t (exB_iff.mpr ⟨i, hi, by simpa using h15⟩)] at hQ
        exact hQ
  refine mx_iconst (0) dP_isSource_0 (by decide) ?_
  refine mx_istore_n dP_isSource_1 (Nat.le_of_ble_eq_true rfl) rfl ?_
  exact hloop 0 (Nat.zero_le _) (fun j hj => absurd hj (Nat.not_lt_zero j))
