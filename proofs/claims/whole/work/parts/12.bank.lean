/-! A switch of four; Bank; Logic. -/
theorem mx_sw4 {K : Nat → Addr → State → State → Prop} {T : List Cond} {cl : List vw_C} {J : mx_J} {R : Room} {k : Nat} {ls rest : List Value} {hp : List va_E} {Q : mx_O → List va_E → Prop} {x : Int32} {dflt o0 o1 o2 o3 : Int} {len : Nat} (t0 t1 t2 t3 td : Nat) (hd : decode J.2.1 k = .ok (.tableswitch dflt 0 3 #[o0, o1, o2, o3], len)) (h0 : (k : Int) + o0 = (t0 : Int)) (h1 : (k : Int) + o1 = (t1 : Int)) (h2 : (k : Int) + o2 = (t2 : Int)) (h3 : (k : Int) + o3 = (t3 : Int)) (h4 : (k : Int) + dflt = (td : Int))
    (k0 : x = 0 → mx_W K T cl J R t0 ls rest hp Q) (k1 : x = 1 → mx_W K T cl J R t1 ls rest hp Q) (k2 : x = 2 → mx_W K T cl J R t2 ls rest hp Q) (k3 : x = 3 → mx_W K T cl J R t3 ls rest hp Q) (kd : ¬ x = 0 → ¬ x = 1 → ¬ x = 2 → ¬ x = 3 → mx_W K T cl J R td ls rest hp Q) : mx_W K T cl J R k ls (.int x :: rest) hp Q := by
  by_cases e0 : x = 0
  · subst e0; exact mx_tableIn t0 hd (by decide) (by decide) rfl h0 (k0 rfl)
  by_cases e1 : x = 1
  · subst e1; exact mx_tableIn t1 hd (by decide) (by decide) rfl h1 (k1 rfl)
  by_cases e2 : x = 2
  · subst e2; exact mx_tableIn t2 hd (by decide) (by decide) rfl h2 (k2 rfl)
  by_cases e3 : x = 3
  · subst e3; exact mx_tableIn t3 hd (by decide) (by decide) rfl h3 (k3 rfl)
  have n0 : ¬ x.toInt = 0 := lv_neT e0 (by decide)
  have n1 : ¬ x.toInt = 1 := lv_neT e1 (by decide)
  have n2 : ¬ x.toInt = 2 := lv_neT e2 (by decide)
  have n3 : ¬ x.toInt = 3 := lv_neT e3 (by decide)
  exact mx_tableOut td hd (by omega) h4 (kd e0 e1 e2 e3)
theorem mx_inc (i : Nat) : nI i + Int32.ofInt 1 = nI (i + 1) := by rw [nI_succ]; rfl
theorem lp_down {G : Nat → Prop} {n : Nat} (hend : G n) (hs : ∀ i, i < n → G (i + 1) → G i) : ∀ i, i ≤ n → G i := by
  intro i hi
  obtain ⟨d, rfl⟩ : ∃ d, n = i + d := ⟨n - i, by omega⟩
  clear hi
  induction d generalizing i with
  | zero => exact hend
  | succ d ih =>
    refine hs i (by omega) (ih (i + 1) ?_ ?_)
    · rw [show i + 1 + d = i + (d + 1) by omega]; exact hend
    · intro j hj; exact hs j (by omega)
abbrev eL (f : Nat → Int32) : va_E := .inl (0, 27, .inl f)
abbrev eV (f : Nat → Int64) : va_E := .inl (1, 27, .inr (.inl f))
def bRd (v : Int64) (r : Int32) : Int32 := (v.toUInt64 >>> ((2 * r).toInt64.toUInt64 &&& Int64.toUInt64 63)).toInt64.toInt32 &&& 3
def bWr (v : Int64) (r x : Int32) : Int64 := (v &&& ((3 <<< ((2 * r).toInt64 &&& 63)) ^^^ (-1))) ||| (x.toInt64 <<< ((2 * r).toInt64 &&& 63))
def bSh (v : Int64) : Int64 := (v.toUInt64 >>> ((2 : Int32).toInt64.toUInt64 &&& Int64.toUInt64 63)).toInt64
def bPs (v : Int64) (x : Int32) : Int64 := (v <<< ((2 : Int32).toInt64 &&& 63)) ||| x.toInt64
theorem pB_ne {hp : List va_E} {b kl kv : Nat} {ln : Nat → Int32} {vl : Nat → Int64} (h : pB hp b kl kv ln vl) : kl ≠ b ∧ kv ≠ b ∧ kl ≠ kv := by
  obtain ⟨h1, h2, h3⟩ := h
  refine ⟨fun e => ?_, fun e => ?_, fun e => ?_⟩
  · rw [e, h1] at h2; cases h2
  · rw [e, h1] at h3; cases h3
  · rw [e, h3] at h2
    have := congrArg (fun z : Option va_E => match z with | some (.inl (t, _)) => t | _ => 9) h2
    simp at this
theorem pB_lt {hp : List va_E} {b kl kv : Nat} {ln : Nat → Int32} {vl : Nat → Int64} (h : pB hp b kl kv ln vl) : kl < hp.length ∧ kv < hp.length := ⟨(List.getElem?_eq_some_iff.mp h.2.1).1, (List.getElem?_eq_some_iff.mp h.2.2).1⟩
theorem pB_l {hp : List va_E} {b kl kv : Nat} {ln : Nat → Int32} {vl : Nat → Int64} (h : pB hp b kl kv ln vl) (ln' : Nat → Int32) : pB (hp.set kl (eL ln')) b kl kv ln' vl := by
  obtain ⟨n1, n2, n3⟩ := pB_ne h
  refine ⟨?_, ?_, ?_⟩
  · rw [List.getElem?_set_ne n1]; exact h.1
  · exact List.getElem?_set_self (pB_lt h).1
  · rw [List.getElem?_set_ne n3]; exact h.2.2
theorem pB_v {hp : List va_E} {b kl kv : Nat} {ln : Nat → Int32} {vl : Nat → Int64} (h : pB hp b kl kv ln vl) (vl' : Nat → Int64) : pB (hp.set kv (eV vl')) b kl kv ln vl' := by
  obtain ⟨n1, n2, n3⟩ := pB_ne h
  refine ⟨?_, ?_, ?_⟩
  · rw [List.getElem?_set_ne n2]; exact h.1
  · rw [List.getElem?_set_ne (Ne.symm n3)]; exact h.2.1
  · exact List.getElem?_set_self (pB_lt h).2
theorem cB_length {hp : List va_E} {b kl kv : Nat} {ln : Nat → Int32} {vl : Nat → Int64} {Q : mx_O → List va_E → Prop} (h : pB hp b kl kv ln vl) {w : Int32} (hw : vp_in w 27) (hQ : Q (.inl (some (.int (ln w.toNatClampNeg)))) (hp)) : mx_W mx_K mT mCl jB_length (mR 0 0) 0 [.ref b, .int w] [] hp Q := by
  refine mx_aload_n dB_length_0 rfl ?_
  refine mx_get 2 0 dB_length_1 fgB_9 h.1 rfl ?_
  refine mx_iload_n dB_length_4 rfl ?_
  refine mx_iald dB_length_5 h.2.1 hw ?_
  refine mx_iret dB_length_6 rfl rfl ?_
  exact hQ
theorem cB_read {hp : List va_E} {b kl kv : Nat} {ln : Nat → Int32} {vl : Nat → Int64} {Q : mx_O → List va_E → Prop} (h : pB hp b kl kv ln vl) {w r : Int32} (hw : vp_in w 27) (hQ : Q (.inl (some (.int (bRd (vl w.toNatClampNeg) r)))) (hp)) : mx_W mx_K mT mCl jB_read (mR 0 0) 0 [.ref b, .int w, .int r] [] hp Q := by
  refine mx_aload_n dB_read_0 rfl ?_
  refine mx_get 2 1 dB_read_1 fgB_15 h.1 rfl ?_
  refine mx_iload_n dB_read_4 rfl ?_
  refine mx_lald dB_read_5 h.2.2 hw ?_
  refine mx_iconst (2) dB_read_6 (by decide) ?_
  refine mx_iload_n dB_read_7 rfl ?_
  refine mx_imul dB_read_8 ?_
  refine mx_lushr dB_read_9 rfl ?_
  refine mx_l2i dB_read_10 rfl ?_
  refine mx_iconst (3) dB_read_11 (by decide) ?_
  refine mx_iand dB_read_12 ?_
  refine mx_iret dB_read_13 rfl rfl ?_
  exact hQ
theorem cB_write {hp : List va_E} {b kl kv : Nat} {ln : Nat → Int32} {vl : Nat → Int64} {Q : mx_O → List va_E → Prop} (h : pB hp b kl kv ln vl) {w r x : Int32} (hw : vp_in w 27) (hQ : Q (.inl none) (hp.set kv (eV (vp_updL vl w.toNatClampNeg (bWr (vl w.toNatClampNeg) r x))))) : mx_W mx_K mT mCl jB_write (mR 0 0) 0 [.ref b, .int w, .int r, .int x, .retAddr 0, .retAddr 0] [] hp Q := by
  refine mx_aload_n dB_write_0 rfl ?_
  refine mx_get 2 1 dB_write_1 fgB_15 h.1 rfl ?_
  refine mx_iload_n dB_write_4 rfl ?_
  refine mx_lald dB_write_5 h.2.2 hw ?_
  refine mx_ldc2 dB_write_6 (mT_2 (i := 158) rfl rfl) ?_
  refine mx_iconst (2) dB_write_9 (by decide) ?_
  refine mx_iload_n dB_write_10 rfl ?_
  refine mx_imul dB_write_11 ?_
  refine mx_lshl dB_write_12 rfl ?_
  refine mx_ldc2 dB_write_13 (mT_2 (i := 159) rfl rfl) ?_
  refine mx_lxor dB_write_16 ?_
  refine mx_land dB_write_17 ?_
  refine mx_lstore dB_write_18 (Nat.le_of_ble_eq_true rfl) rfl ?_
  refine mx_aload_n dB_write_20 rfl ?_
  refine mx_get 2 1 dB_write_21 fgB_15 h.1 rfl ?_
  refine mx_iload_n dB_write_24 rfl ?_
  refine mx_lload dB_write_25 rfl ?_
  refine mx_iload_n dB_write_27 rfl ?_
  refine mx_i2l dB_write_28 rfl ?_
  refine mx_iconst (2) dB_write_29 (by decide) ?_
  refine mx_iload_n dB_write_30 rfl ?_
  refine mx_imul dB_write_31 ?_
  refine mx_lshl dB_write_32 rfl ?_
  refine mx_lor dB_write_33 ?_
  refine mx_last dB_write_34 h.2.2 hw ?_
  refine mx_vret dB_write_35 rfl ?_
  exact hQ
theorem cB_takeAtSink {hp : List va_E} {b kl kv : Nat} {ln : Nat → Int32} {vl : Nat → Int64} {Q : mx_O → List va_E → Prop} (h : pB hp b kl kv ln vl) {w : Int32} (hw : vp_in w 27) (hQ : Q (.inl (some (.int (bRd (vl w.toNatClampNeg) 0)))) ((hp.set kv (eV (vp_updL vl w.toNatClampNeg (bSh (vl w.toNatClampNeg))))).set kl (eL (upd ln w.toNatClampNeg (ln w.toNatClampNeg - 1))))) : mx_W mx_K mT mCl jB_takeAtSink (mR 1 22) 0 [.ref b, .int w, .retAddr 0] [] hp Q := by
  have h2 := pB_v h (vp_updL vl w.toNatClampNeg (bSh (vl w.toNatClampNeg)))
  refine mx_aload_n dB_takeAtSink_0 rfl ?_
  refine mx_iload_n dB_takeAtSink_1 rfl ?_
  refine mx_iconst (0) dB_takeAtSink_2 (by decide) ?_
  refine mx_V1 (R' := (mR 0 0)) [_, _] _ dB_takeAtSink_3 rfl mT_G jB_read_ok jB_read_v lkB_27 ⟨rfl, rfl, Nat.le_of_ble_eq_true rfl, Nat.le_of_ble_eq_true rfl⟩ rfl rfl (Nat.le_of_ble_eq_true rfl) (Nat.le_of_ble_eq_true rfl) h.1 rfl rfl (fun Qc qc => cB_read h hw qc) ?_
  refine mx_istore_n dB_takeAtSink_6 (Nat.le_of_ble_eq_true rfl) rfl ?_
  refine mx_aload_n dB_takeAtSink_7 rfl ?_
  refine mx_get 2 1 dB_takeAtSink_8 fgB_15 h.1 rfl ?_
  refine mx_iload_n dB_takeAtSink_11 rfl ?_
  refine mx_dup2 dB_takeAtSink_12 rfl rfl ?_
  refine mx_lald dB_takeAtSink_13 h.2.2 hw ?_
  refine mx_iconst (2) dB_takeAtSink_14 (by decide) ?_
  refine mx_lushr dB_takeAtSink_15 rfl ?_
  refine mx_last dB_takeAtSink_16 h.2.2 hw ?_
  refine mx_aload_n dB_takeAtSink_17 rfl ?_
  refine mx_get 2 0 dB_takeAtSink_18 fgB_9 h2.1 rfl ?_
  refine mx_iload_n dB_takeAtSink_21 rfl ?_
  refine mx_dup2 dB_takeAtSink_22 rfl rfl ?_
  refine mx_iald dB_takeAtSink_23 h2.2.1 hw ?_
  refine mx_iconst (1) dB_takeAtSink_24 (by decide) ?_
  refine mx_isub dB_takeAtSink_25 ?_
  refine mx_iast dB_takeAtSink_26 h2.2.1 hw ?_
  refine mx_iload_n dB_takeAtSink_27 rfl ?_
  refine mx_iret dB_takeAtSink_28 rfl rfl ?_
  exact hQ
theorem cB_putAtSink {hp : List va_E} {b kl kv : Nat} {ln : Nat → Int32} {vl : Nat → Int64} {Q : mx_O → List va_E → Prop} (h : pB hp b kl kv ln vl) {w x : Int32} (hw : vp_in w 27) (hQ : Q (.inl none) ((hp.set kv (eV (vp_updL vl w.toNatClampNeg (bPs (vl w.toNatClampNeg) x)))).set kl (eL (upd ln w.toNatClampNeg (ln w.toNatClampNeg + 1))))) : mx_W mx_K mT mCl jB_putAtSink (mR 0 0) 0 [.ref b, .int w, .int x] [] hp Q := by
  have h2 := pB_v h (vp_updL vl w.toNatClampNeg (bPs (vl w.toNatClampNeg) x))
  refine mx_aload_n dB_putAtSink_0 rfl ?_
  refine mx_get 2 1 dB_putAtSink_1 fgB_15 h.1 rfl ?_
  refine mx_iload_n dB_putAtSink_4 rfl ?_
  refine mx_aload_n dB_putAtSink_5 rfl ?_
  refine mx_get 2 1 dB_putAtSink_6 fgB_15 h.1 rfl ?_
  refine mx_iload_n dB_putAtSink_9 rfl ?_
  refine mx_lald dB_putAtSink_10 h.2.2 hw ?_
  refine mx_iconst (2) dB_putAtSink_11 (by decide) ?_
  refine mx_lshl dB_putAtSink_12 rfl ?_
  refine mx_iload_n dB_putAtSink_13 rfl ?_
  refine mx_i2l dB_putAtSink_14 rfl ?_
  refine mx_lor dB_putAtSink_15 ?_
  refine mx_last dB_putAtSink_16 h.2.2 hw ?_
  refine mx_aload_n dB_putAtSink_17 rfl ?_
  refine mx_get 2 0 dB_putAtSink_18 fgB_9 h2.1 rfl ?_
  refine mx_iload_n dB_putAtSink_21 rfl ?_
  refine mx_dup2 dB_putAtSink_22 rfl rfl ?_
  refine mx_iald dB_putAtSink_23 h2.2.1 hw ?_
  refine mx_iconst (1) dB_putAtSink_24 (by decide) ?_
  refine mx_iadd dB_putAtSink_25 ?_
  refine mx_iast dB_putAtSink_26 h2.2.1 hw ?_
  refine mx_vret dB_putAtSink_27 rfl ?_
  exact hQ
theorem cB_takeAtSource {hp : List va_E} {b kl kv : Nat} {ln : Nat → Int32} {vl : Nat → Int64} {Q : mx_O → List va_E → Prop} (h : pB hp b kl kv ln vl) {w : Int32} (hw : vp_in w 27) (hQ : Q (.inl (some (.int (bRd (vl w.toNatClampNeg) (ln w.toNatClampNeg - 1))))) (hp.set kl (eL (upd ln w.toNatClampNeg (ln w.toNatClampNeg - 1))))) : mx_W mx_K mT mCl jB_takeAtSource (mR 1 22) 0 [.ref b, .int w] [] hp Q := by
  have h2 := pB_l h (upd ln w.toNatClampNeg (ln w.toNatClampNeg - 1))
  refine mx_aload_n dB_takeAtSource_0 rfl ?_
  refine mx_get 2 0 dB_takeAtSource_1 fgB_9 h.1 rfl ?_
  refine mx_iload_n dB_takeAtSource_4 rfl ?_
  refine mx_dup2 dB_takeAtSource_5 rfl rfl ?_
  refine mx_iald dB_takeAtSource_6 h.2.1 hw ?_
  refine mx_iconst (1) dB_takeAtSource_7 (by decide) ?_
  refine mx_isub dB_takeAtSource_8 ?_
  refine mx_iast dB_takeAtSource_9 h.2.1 hw ?_
  refine mx_aload_n dB_takeAtSource_10 rfl ?_
  refine mx_iload_n dB_takeAtSource_11 rfl ?_
  refine mx_aload_n dB_takeAtSource_12 rfl ?_
  refine mx_get 2 0 dB_takeAtSource_13 fgB_9 h2.1 rfl ?_
  refine mx_iload_n dB_takeAtSource_16 rfl ?_
  refine mx_iald dB_takeAtSource_17 h2.2.1 hw ?_
  refine mx_V1 (R' := (mR 0 0)) [_, _] _ dB_takeAtSource_18 rfl mT_G jB_read_ok jB_read_v lkB_27 ⟨rfl, rfl, Nat.le_of_ble_eq_true rfl, Nat.le_of_ble_eq_true rfl⟩ rfl rfl (Nat.le_of_ble_eq_true rfl) (Nat.le_of_ble_eq_true rfl) h2.1 rfl rfl (fun Qc qc => cB_read h2 hw qc) ?_
  refine mx_iret dB_takeAtSource_21 rfl rfl ?_
  rw [pk_us] ; exact hQ
theorem cB_putAtSource {hp : List va_E} {b kl kv : Nat} {ln : Nat → Int32} {vl : Nat → Int64} {Q : mx_O → List va_E → Prop} (h : pB hp b kl kv ln vl) {w x : Int32} (hw : vp_in w 27) (hQ : Q (.inl none) ((hp.set kv (eV (vp_updL vl w.toNatClampNeg (bWr (vl w.toNatClampNeg) (ln w.toNatClampNeg) x)))).set kl (eL (upd ln w.toNatClampNeg (ln w.toNatClampNeg + 1))))) : mx_W mx_K mT mCl jB_putAtSource (mR 1 25) 0 [.ref b, .int w, .int x] [] hp Q := by
  have h2 := pB_v h (vp_updL vl w.toNatClampNeg (bWr (vl w.toNatClampNeg) (ln w.toNatClampNeg) x))
  refine mx_aload_n dB_putAtSource_0 rfl ?_
  refine mx_iload_n dB_putAtSource_1 rfl ?_
  refine mx_aload_n dB_putAtSource_2 rfl ?_
  refine mx_get 2 0 dB_putAtSource_3 fgB_9 h.1 rfl ?_
  refine mx_iload_n dB_putAtSource_6 rfl ?_
  refine mx_iald dB_putAtSource_7 h.2.1 hw ?_
  refine mx_iload_n dB_putAtSource_8 rfl ?_
  refine mx_V1 (R' := (mR 0 0)) [_, _, _] _ dB_putAtSource_9 rfl mT_G jB_write_ok jB_write_v lkB_31 ⟨rfl, rfl, Nat.le_of_ble_eq_true rfl, Nat.le_of_ble_eq_true rfl⟩ rfl rfl (Nat.le_of_ble_eq_true rfl) (Nat.le_of_ble_eq_true rfl) h.1 rfl rfl (fun Qc qc => cB_write h hw qc) ?_
  refine mx_aload_n dB_putAtSource_12 rfl ?_
  refine mx_get 2 0 dB_putAtSource_13 fgB_9 h2.1 rfl ?_
  refine mx_iload_n dB_putAtSource_16 rfl ?_
  refine mx_dup2 dB_putAtSource_17 rfl rfl ?_
  refine mx_iald dB_putAtSource_18 h2.2.1 hw ?_
  refine mx_iconst (1) dB_putAtSource_19 (by decide) ?_
  refine mx_iadd dB_putAtSource_20 ?_
  refine mx_iast dB_putAtSource_21 h2.2.1 hw ?_
  refine mx_vret dB_putAtSource_22 rfl ?_
  exact hQ
def gOp (x : Int32) : Int32 := if ¬ x = 2 then 1 - x else 2
def gRu (r x y : Int32) : Int32 := if x = r then r else if ¬ y = r then (if x = 2 then 2 else if ¬ y = 2 then 1 - r else 2) else r
def gMade (k x y : Int32) : Int32 := if k = 0 then x else if k = 1 then gOp x else if k = 2 then gRu 0 x y else if k = 3 then gRu 1 x y else if x = 2 then 2 else if ¬ y = 2 then x ^^^ y else 2
def gNeed (k i v : Int32) : Int32 := if ¬ v = 2 then (if k = 0 then v else if k = 1 then gOp v else if k = 2 then (if ¬ v = 0 then v else if ¬ i = 1 then v else 2) else if k = 3 then (if ¬ v = 1 then v else if ¬ i = 1 then v else 2) else if ¬ i = 0 then 0 else v) else 2
theorem cG_opposite {hp : List va_E} {Q : mx_O → List va_E → Prop} {x : Int32} (hQ : Q (.inl (some (.int (gOp x)))) (hp)) : mx_W mx_K mT mCl jG_opposite (mR 0 0) 0 [.int x] [] hp Q := by
  refine mx_iload_n dG_opposite_0 rfl ?_
  refine mx_iconst (2) dG_opposite_1 (by decide) ?_
  refine mx_icmp_ne 9 dG_opposite_2 rfl (fun h2 => ?_) (fun h2 => ?_)
  · refine mx_iconst (1) dG_opposite_9 (by decide) ?_
    refine mx_iload_n dG_opposite_10 rfl ?_
    refine mx_isub dG_opposite_11 ?_
    refine mx_iret dG_opposite_12 rfl rfl ?_
    simpa [gOp, h2] using hQ
  · refine mx_iconst (2) dG_opposite_5 (by decide) ?_
    refine mx_goto 12 dG_opposite_6 rfl ?_
    refine mx_iret dG_opposite_12 rfl rfl ?_
    simpa [gOp, h2] using hQ
theorem cG_ruled {hp : List va_E} {Q : mx_O → List va_E → Prop} {r x y : Int32} (hQ : Q (.inl (some (.int (gRu r x y)))) (hp)) : mx_W mx_K mT mCl jG_ruled (mR 0 0) 0 [.int r, .int x, .int y] [] hp Q := by
  refine mx_iload_n dG_ruled_0 rfl ?_
  refine mx_iload_n dG_ruled_1 rfl ?_
  refine mx_icmp_eq 10 dG_ruled_2 rfl (fun h2 => ?_) (fun h2 => ?_)
  · refine mx_iload_n dG_ruled_10 rfl ?_
    refine mx_iret dG_ruled_11 rfl rfl ?_
    first | (simpa [gRu, h2] using hQ; done) | (unfold gRu at hQ; simp_all)
  · refine mx_iload_n dG_ruled_5 rfl ?_
    refine mx_iload_n dG_ruled_6 rfl ?_
    refine mx_icmp_ne 12 dG_ruled_7 rfl (fun h7 => ?_) (fun h7 => ?_)
    · refine mx_iload_n dG_ruled_12 rfl ?_
      refine mx_iconst (2) dG_ruled_13 (by decide) ?_
      refine mx_icmp_eq 22 dG_ruled_14 rfl (fun h14 => ?_) (fun h14 => ?_)
      · refine mx_iconst (2) dG_ruled_22 (by decide) ?_
        refine mx_goto 29 dG_ruled_23 rfl ?_
        refine mx_iret dG_ruled_29 rfl rfl ?_
        first | (simpa [gRu, h2, h7, h14] using hQ; done) | (unfold gRu at hQ; simp_all)
      · refine mx_iload_n dG_ruled_17 rfl ?_
        refine mx_iconst (2) dG_ruled_18 (by decide) ?_
        refine mx_icmp_ne 26 dG_ruled_19 rfl (fun h19 => ?_) (fun h19 => ?_)
        · refine mx_iconst (1) dG_ruled_26 (by decide) ?_
          refine mx_iload_n dG_ruled_27 rfl ?_
          refine mx_isub dG_ruled_28 ?_
          refine mx_iret dG_ruled_29 rfl rfl ?_
          first | (simpa [gRu, h2, h7, h14, h19] using hQ; done) | (unfold gRu at hQ; simp_all)
        · refine mx_iconst (2) dG_ruled_22 (by decide) ?_
          refine mx_goto 29 dG_ruled_23 rfl ?_
          refine mx_iret dG_ruled_29 rfl rfl ?_
          first | (simpa [gRu, h2, h7, h14, h19] using hQ; done) | (unfold gRu at hQ; simp_all)
    · refine mx_iload_n dG_ruled_10 rfl ?_
      refine mx_iret dG_ruled_11 rfl rfl ?_
      first | (simpa [gRu, h2, h7] using hQ; done) | (unfold gRu at hQ; simp_all)
theorem cG_made {hp : List va_E} {Q : mx_O → List va_E → Prop} {k x y : Int32} (hQ : Q (.inl (some (.int (gMade k x y)))) (hp)) : mx_W mx_K mT mCl jG_made (mR 1 22) 0 [.int k, .int x, .int y] [] hp Q := by
  refine mx_iload_n dG_made_0 rfl ?_
  refine mx_sw4 32 34 39 46 53 dG_made_1 rfl rfl rfl rfl rfl (fun e0 => ?_) (fun e0 => ?_) (fun e0 => ?_) (fun e0 => ?_) (fun e0 e1 e2 e3 => ?_)
  · refine mx_iload_n dG_made_32 rfl ?_
    refine mx_iret dG_made_33 rfl rfl ?_
    simpa [gMade, e0] using hQ
  · refine mx_iload_n dG_made_34 rfl ?_
    refine mx_S1 (R' := (mR 0 0)) [_] _ dG_made_35 rfl mT_G jG_opposite_ok jG_opposite_v lkG_9 ⟨rfl, rfl, Nat.le_of_ble_eq_true rfl, Nat.le_of_ble_eq_true rfl⟩ rfl rfl (Nat.le_of_ble_eq_true rfl) (Nat.le_of_ble_eq_true rfl) (fun Qc qc => cG_opposite qc) ?_
    refine mx_iret dG_made_38 rfl rfl ?_
    simpa [gMade, e0] using hQ
  · refine mx_iconst (0) dG_made_39 (by decide) ?_
    refine mx_iload_n dG_made_40 rfl ?_
    refine mx_iload_n dG_made_41 rfl ?_
    refine mx_S1 (R' := (mR 0 0)) [_, _, _] _ dG_made_42 rfl mT_G jG_ruled_ok jG_ruled_v lkG_15 ⟨rfl, rfl, Nat.le_of_ble_eq_true rfl, Nat.le_of_ble_eq_true rfl⟩ rfl rfl (Nat.le_of_ble_eq_true rfl) (Nat.le_of_ble_eq_true rfl) (fun Qc qc => cG_ruled qc) ?_
    refine mx_iret dG_made_45 rfl rfl ?_
    simpa [gMade, e0] using hQ
  · refine mx_iconst (1) dG_made_46 (by decide) ?_
    refine mx_iload_n dG_made_47 rfl ?_
    refine mx_iload_n dG_made_48 rfl ?_
    refine mx_S1 (R' := (mR 0 0)) [_, _, _] _ dG_made_49 rfl mT_G jG_ruled_ok jG_ruled_v lkG_15 ⟨rfl, rfl, Nat.le_of_ble_eq_true rfl, Nat.le_of_ble_eq_true rfl⟩ rfl rfl (Nat.le_of_ble_eq_true rfl) (Nat.le_of_ble_eq_true rfl) (fun Qc qc => cG_ruled qc) ?_
    refine mx_iret dG_made_52 rfl rfl ?_
    simpa [gMade, e0] using hQ
  · refine mx_iload_n dG_made_53 rfl ?_
    refine mx_iconst (2) dG_made_54 (by decide) ?_
    refine mx_icmp_eq 63 dG_made_55 rfl (fun h55 => ?_) (fun h55 => ?_)
    · refine mx_iconst (2) dG_made_63 (by decide) ?_
      refine mx_goto 70 dG_made_64 rfl ?_
      refine mx_iret dG_made_70 rfl rfl ?_
      simpa [gMade, e0, e1, e2, e3, h55] using hQ
    · refine mx_iload_n dG_made_58 rfl ?_
      refine mx_iconst (2) dG_made_59 (by decide) ?_
      refine mx_icmp_ne 67 dG_made_60 rfl (fun h60 => ?_) (fun h60 => ?_)
      · refine mx_iload_n dG_made_67 rfl ?_
        refine mx_iload_n dG_made_68 rfl ?_
        refine mx_ixor dG_made_69 ?_
        refine mx_iret dG_made_70 rfl rfl ?_
        simpa [gMade, e0, e1, e2, e3, h55, h60] using hQ
      · refine mx_iconst (2) dG_made_63 (by decide) ?_
        refine mx_goto 70 dG_made_64 rfl ?_
        refine mx_iret dG_made_70 rfl rfl ?_
        simpa [gMade, e0, e1, e2, e3, h55, h60] using hQ
theorem cG_needed {hp : List va_E} {Q : mx_O → List va_E → Prop} {k i v : Int32} (hQ : Q (.inl (some (.int (gNeed k i v)))) (hp)) : mx_W mx_K mT mCl jG_needed (mR 1 20) 0 [.int k, .int i, .int v] [] hp Q := by
  refine mx_iload_n dG_needed_0 rfl ?_
  refine mx_iconst (2) dG_needed_1 (by decide) ?_
  refine mx_icmp_ne 7 dG_needed_2 rfl (fun h2 => ?_) (fun h2 => ?_)
  · refine mx_iload_n dG_needed_7 rfl ?_
    refine mx_sw4 40 42 47 62 78 dG_needed_8 rfl rfl rfl rfl rfl (fun e0 => ?_) (fun e0 => ?_) (fun e0 => ?_) (fun e0 => ?_) (fun e0 e1 e2 e3 => ?_)
    · refine mx_iload_n dG_needed_40 rfl ?_
      refine mx_iret dG_needed_41 rfl rfl ?_
      simpa [gNeed, h2, e0] using hQ
    · refine mx_iload_n dG_needed_42 rfl ?_
      refine mx_S1 (R' := (mR 0 0)) [_] _ dG_needed_43 rfl mT_G jG_opposite_ok jG_opposite_v lkG_9 ⟨rfl, rfl, Nat.le_of_ble_eq_true rfl, Nat.le_of_ble_eq_true rfl⟩ rfl rfl (Nat.le_of_ble_eq_true rfl) (Nat.le_of_ble_eq_true rfl) (fun Qc qc => cG_opposite qc) ?_
      refine mx_iret dG_needed_46 rfl rfl ?_
      simpa [gNeed, h2, e0] using hQ
    · refine mx_iload_n dG_needed_47 rfl ?_
      refine mx_if_ne 60 dG_needed_48 rfl (fun h48 => ?_) (fun h48 => ?_)
      · refine mx_iload_n dG_needed_60 rfl ?_
        refine mx_iret dG_needed_61 rfl rfl ?_
        simpa [gNeed, h2, e0, h48] using hQ
      · refine mx_iload_n dG_needed_51 rfl ?_
        refine mx_iconst (1) dG_needed_52 (by decide) ?_
        refine mx_icmp_ne 60 dG_needed_53 rfl (fun h53 => ?_) (fun h53 => ?_)
        · refine mx_iload_n dG_needed_60 rfl ?_
          refine mx_iret dG_needed_61 rfl rfl ?_
          simpa [gNeed, h2, e0, h48, h53] using hQ
        · refine mx_iconst (2) dG_needed_56 (by decide) ?_
          refine mx_goto 61 dG_needed_57 rfl ?_
          refine mx_iret dG_needed_61 rfl rfl ?_
          simpa [gNeed, h2, e0, h48, h53] using hQ
    · refine mx_iload_n dG_needed_62 rfl ?_
      refine mx_iconst (1) dG_needed_63 (by decide) ?_
      refine mx_icmp_ne 76 dG_needed_64 rfl (fun h64 => ?_) (fun h64 => ?_)
      · refine mx_iload_n dG_needed_76 rfl ?_
        refine mx_iret dG_needed_77 rfl rfl ?_
        simpa [gNeed, h2, e0, h64] using hQ
      · refine mx_iload_n dG_needed_67 rfl ?_
        refine mx_iconst (1) dG_needed_68 (by decide) ?_
        refine mx_icmp_ne 76 dG_needed_69 rfl (fun h69 => ?_) (fun h69 => ?_)
        · refine mx_iload_n dG_needed_76 rfl ?_
          refine mx_iret dG_needed_77 rfl rfl ?_
          simpa [gNeed, h2, e0, h64, h69] using hQ
        · refine mx_iconst (2) dG_needed_72 (by decide) ?_
          refine mx_goto 77 dG_needed_73 rfl ?_
          refine mx_iret dG_needed_77 rfl rfl ?_
          simpa [gNeed, h2, e0, h64, h69] using hQ
    · refine mx_iload_n dG_needed_78 rfl ?_
      refine mx_if_ne 86 dG_needed_79 rfl (fun h79 => ?_) (fun h79 => ?_)
      · refine mx_iconst (0) dG_needed_86 (by decide) ?_
        refine mx_iret dG_needed_87 rfl rfl ?_
        simpa [gNeed, h2, e0, e1, e2, e3, h79] using hQ
      · refine mx_iload_n dG_needed_82 rfl ?_
        refine mx_goto 87 dG_needed_83 rfl ?_
        refine mx_iret dG_needed_87 rfl rfl ?_
        simpa [gNeed, h2, e0, e1, e2, e3, h79] using hQ
  · refine mx_iconst (2) dG_needed_5 (by decide) ?_
    refine mx_iret dG_needed_6 rfl rfl ?_
    simpa [gNeed, h2] using hQ
