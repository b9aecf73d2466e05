/-! What holds at the law's start; the whole walk. -/
theorem mx_Sf_of {C n d : String} {s : State} {args : Array Value} (h1 : (Cond.isRef (.static C n d)).before args s = true) (h2 : (Cond.laysStatic C n d).before args s = true) : mx_Sf C n d s := by
  obtain ⟨c, k, i, f, a, cell, q1, q2, q3, q4, q5, q6, q7, q8, q9⟩ := Cond.laysStatic_spec h2
  obtain ⟨v, hv⟩ : ∃ v, cell.slots[f.slot]? = some v := ⟨_, Array.getElem?_eq_getElem q8⟩
  refine ⟨c, k, i, f, a, cell, v, q2, q3, q4, q5, q6, hv, ?_, q1, q7, q8, q9⟩
  cases v with
  | null => exact Or.inl rfl
  | ref t => exact Or.inr ⟨t, rfl⟩
  | _ => simp [Cond.before, Cond.holds, Cond.value, Term.eval, State.fieldNamed?, q2, q3, q4, q5, q6, hv] at h1
theorem mx_nc_of {a b : String} {s : State} {args : Array Value} (h : (Cond.not (.castable a b)).before args s = true) : ∀ c t, s.vm.findClass a = some c → s.vm.findClass b = some t → s.vm.assignable c t = false := fun c t h1 h2 => by
  have hv := Cond.holds_not_iff.mp h
  simp only [Cond.value, h1, h2] at hv
  exact Option.some.inj hv
theorem mx_arr_of {ty : FieldType} {s : State} {args : Array Value} (h : (Cond.arrayClass ty).before args s = true) : ∃ cA : ClassId, ArrOfT s cA ty ∧ s.vm.findClass ("[" ++ ty.toString) = some cA := by
  obtain ⟨c, k, comp, h1, h2, h3⟩ := Cond.arrayClass_spec h
  exact ⟨c, fun n z => ⟨fun j h => (by cases h), k, h2, comp, h3⟩, h1⟩
theorem start_K {s : State} {args : Array Value} (hw : ∀ w ∈ mT, w.before args s = true) (ho : (Cond.arrayOver (.array .int)).before args s = true) : ∃ (D : va_G) (dT : Nat → ClassId), va_K D mCl (mx_tys dT) s := by
  obtain ⟨cA, iA, kA⟩ := u_known (N := 9) hw fw_A (hw _ (mT_1 (i := 21) rfl rfl))
  obtain ⟨cP, iP, kP⟩ := u_known (N := 4) hw fw_P (hw _ (mT_1 (i := 29) rfl rfl))
  obtain ⟨cB, iB, kB⟩ := u_known (N := 2) hw fw_B (hw _ (mT_1 (i := 62) rfl rfl))
  obtain ⟨cO, iO, kO⟩ := u_known (N := 3) hw fw_O (hw _ (mT_1 (i := 76) rfl rfl))
  obtain ⟨cH, iH, kH⟩ := u_known (N := 2) hw fw_H (hw _ (mT_1 (i := 94) rfl rfl))
  obtain ⟨cL, iL, kL⟩ := u_known (N := 2) hw fw_L (hw _ (mT_1 (i := 113) rfl rfl))
  obtain ⟨cV, iV, kV⟩ := u_known (N := 1) hw fw_V (hw _ (mT_1 (i := 128) rfl rfl))
  obtain ⟨cC, iC, kC⟩ := u_known (N := 2) hw fw_C (hw _ (mT_1 (i := 138) rfl rfl))
  obtain ⟨cM, iM, kM⟩ := u_known (N := 15) hw fw_M (hw _ (mT_3 (i := 201) rfl rfl))
  obtain ⟨aI, bI, eI⟩ := mx_arr_of (hw _ (mT_1 (i := 60) rfl rfl))
  obtain ⟨aJ, bJ, eJ⟩ := mx_arr_of (hw _ (mT_1 (i := 74) rfl rfl))
  obtain ⟨aZ, bZ, eZ⟩ := mx_arr_of (hw _ (mT_1 (i := 92) rfl rfl))
  obtain ⟨comp, aA, kR, -, f2, f3, eA⟩ := Cond.arrayOver_specA ho
  refine ⟨(fun j => match j with | 0 => cA | 1 => cP | 2 => cB | 3 => cO | 4 => cH | 5 => cL | 6 => cV | 7 => cC | _ => cM, fun j => match j with | 0 => iA | 1 => iP | 2 => iB | 3 => iO | 4 => iH | 5 => iL | 6 => iV | 7 => iC | _ => iM), fun t => match t with | 0 => aI | 1 => aJ | 2 => aZ | _ => aA, fun j q hq => ?_, fun j q hq => ?_⟩
  · match j, hq with
    | 0, hq => cases hq; exact kA
    | 1, hq => cases hq; exact kP
    | 2, hq => cases hq; exact kB
    | 3, hq => cases hq; exact kO
    | 4, hq => cases hq; exact kH
    | 5, hq => cases hq; exact kL
    | 6, hq => cases hq; exact kV
    | 7, hq => cases hq; exact kC
    | 8, hq => cases hq; exact kM
    | j + 9, hq => exact absurd (List.getElem?_eq_some_iff.mp hq).1 (by simp)
  · match j, hq with
    | 0, hq => cases hq; exact ⟨bI, eI⟩
    | 1, hq => cases hq; exact ⟨bJ, eJ⟩
    | 2, hq => cases hq; exact ⟨bZ, eZ⟩
    | 3, hq => cases hq; exact ⟨fun n z => ⟨fun j h => (by cases h), kR, f2, comp, f3⟩, eA⟩
    | j + 4, hq => exact absurd (List.getElem?_eq_some_iff.mp hq).1 (by simp [mx_tys])
theorem start_Z {l : Launch} {s : State} {b : Nat} (hfl : l.flags = flags0) (hts : ∀ w ∈ lw_tbl, w.before #[Value.ref b] s = true) (hgv : (Jvm.Cond.and given_1 narrow_1).before #[Value.ref b] s = true) : mx_Z0 l s := by
  have hs := flat_of_before _ hgv
  refine ⟨fun e ha => Launch.traces_off hfl ha, mx_Sf_of (hs _ (by decide +kernel)) (hts _ (by decide +kernel)), mx_Sf_of (hs _ (by decide +kernel)) (hts _ (by decide +kernel)), hts (.arrayOver (.array .int)) (by decide +kernel), fun x hx => ?_⟩
  unfold mx_nc at hx
  simp only [List.mem_cons, List.not_mem_nil, or_false] at hx
  rcases hx with rfl | rfl | rfl | rfl
  · exact mx_nc_of (a := "java/lang/UnsupportedOperationException") (b := "java/lang/IllegalArgumentException") (hs _ (by decide +kernel))
  · exact mx_nc_of (a := "java/lang/IllegalArgumentException") (b := "java/util/NoSuchElementException") (hs _ (by decide +kernel))
  · exact mx_nc_of (a := "java/lang/IllegalStateException") (b := "java/util/NoSuchElementException") (hs _ (by decide +kernel))
  · exact mx_nc_of (a := "java/lang/IllegalArgumentException") (b := "java/lang/IllegalStateException") (hs _ (by decide +kernel))
/-- from the entry, for every script of at most 2560 ints, the law comes to its end with true -/
theorem whole_start {p : Program} {e : Env} {s : State} {m : MethodId} {below : List Frame} {meth : Method} {c : Code} (l : Launch) (hfl : l.flags = flags0) {b L : Nat} {xs : Nat → Int32} (hL : L ≤ 2560) (C0 : lw_At p s m meth c b L xs) : W p l e room_1 s m #[Value.ref b] below meth c s.heap [] 0 0 (lw_Z below #[Value.ref b] s) (entryFrame m ([Value.ref b] : List Value).toArray 7) := by
  obtain ⟨hx, hb, hr, hml, hown, hts, hX, hbl, hlk, hgv⟩ := C0
  have hw : ∀ w ∈ mT, w.before #[Value.ref b] s = true := fun w h => hts w (List.mem_filter.mp h).1
  obtain ⟨D, dT, hK⟩ := start_K hw (hts (.arrayOver (.array .int)) (by decide +kernel))
  have hq0 : ∀ j, j < 1000 → (fun j => if j = 1000 then b else s.heap.size + j) j = s.heap.size + j := fun j hj => if_neg (by omega)
  rw [lg_entry_eq]
  exact law_pre (xs := xs) hL l p e s m #[Value.ref b] below meth c D dT (fun j => if j = 1000 then b else s.heap.size + j) (fun r => s.heap.size ≤ r) s.heap [] _ ⟨hx, hb, hr, hml, hown, hw, hK, hlk, fun r h => h, fun r h cell hc => absurd (Array.getElem?_eq_some_iff.mp hc).1 (by omega), start_Z hfl hts hgv, fun h => absurd h (by decide), fun h => absurd rfl h, hX, hbl, fun h => absurd hbl (by have : s.heap.size ≤ b := h; omega), fun r h => h, rfl⟩ (mx_entry (q := fun j => if j = 1000 then b else s.heap.size + j) (vs := [.ref 1000]) (n := 7) rfl (by decide)) (fun _ j h1 h2 => hq0 j h2) (fun k y h => by simp [mx_w] at h) ⟨fun i j y y2 h => by simp [mx_w] at h, fun k y h => by simp [mx_w] at h⟩ va_S.rf
