/-! The engine, ninth part: rows of rows. -/
theorem mx_outer (c : ClassId) (N h0 : Nat) : ∀ i : Nat, Jvm.Free.Multi.outerC c N h0 i = arrV c N (fun j => va_rf (if j < i then some (h0 + 1 + j) else none))
  | 0 => by
    show ({ cls := c, slots := Array.replicate N .null, vm := .none } : Cell) = _
    rw [arrV_new]
    refine congrArg (arrV c N) (funext fun j => ?_)
    simp [va_rf]
  | i + 1 => by
    show (Jvm.Free.Multi.outerC c N h0 i).setSlot i (.ref (h0 + 1 + i)) = _
    rw [mx_outer c N h0 i, arrV_store]
    refine congrArg (arrV c N) (funext fun j => ?_)
    by_cases e : j = i
    · subst e
      simp [updV, va_rf]
    · by_cases h : j < i
      · simp [updV, e, h, Nat.lt_succ_of_lt h]
      · simp [updV, e, h, show ¬ j < i + 1 by omega]
/-- what new cells do to the picture -/
theorem mx_grows {cl : List vw_C} {D : va_G} {dT : Nat → ClassId} {q : Nat → Nat} {A : Nat → Prop} {H0 H H1 : Heap} {locs : List Loc} {hp xs : List va_E} (hlen : hp.length + xs.length ≤ 1000) (hq : mx_q true q hp H) (hP : va_P D cl (mx_w q dT hp) H) (hD : va_D A (mx_w q dT hp)) (hS : va_S A H0 H locs) (hA : ∀ r : Nat, H0.size ≤ r → A r) (z1 : H1.size = H.size + xs.length) (o1 : ∀ r, r < H.size → H1[r]? = H[r]?) (hx : ∀ (j : Nat) (x : va_E), xs[j]? = some x → va_at D cl (H.size + j, mx_e q dT x) H1) : mx_q true q (hp ++ xs) H1 ∧ va_P D cl (mx_w q dT (hp ++ xs)) H1 ∧ va_D A (mx_w q dT (hp ++ xs)) ∧ va_S A H0 H1 locs := by
  have hk : ∀ (k : Nat) (y : Nat × va_E), (mx_w q dT hp)[k]? = some y → H1[y.1]? = H[y.1]? := fun k y hy => o1 y.1 ((hP k y hy).lt)
  have hat : ∀ (j : Nat) (y : Nat × va_E), (xs.mapIdx (fun i x => (q (i + hp.length), mx_e q dT x)))[j]? = some y → ∃ x, xs[j]? = some x ∧ y = (H.size + j, mx_e q dT x) := fun j y hy => by
    rw [List.getElem?_mapIdx] at hy
    cases h2 : xs[j]? with
    | none => rw [h2] at hy; cases hy
    | some x =>
      rw [h2] at hy
      cases hy
      have hj := (List.getElem?_eq_some_iff.mp h2).1
      refine ⟨x, rfl, ?_⟩
      rw [hq rfl (j + hp.length) (by omega) (by omega), show j + hp.length - hp.length = j by omega]
  rw [mx_w_app]
  refine ⟨fun _ j h1 h2 => ?_, (hP.kept hk).app (fun k y hy => ?_), va_D.app hD ⟨fun i j x y hx2 hy2 e => ?_, fun k y hy => ?_⟩ (fun i j x y hx2 hy2 e => ?_), ⟨Nat.le_trans hS.1 (by omega), fun r h1 h2 => (o1 r (Nat.lt_of_lt_of_le h1 hS.1)).trans (hS.2.1 r h1 h2), hS.2.2⟩⟩
  · rw [List.length_append] at h1 ⊢
    rw [hq rfl j (by omega) h2, z1]
    omega
  · obtain ⟨x, h1, rfl⟩ := hat k y hy
    exact hx k x h1
  · obtain ⟨x1, _, rfl⟩ := hat i x hx2
    obtain ⟨y1, _, rfl⟩ := hat j y hy2
    have e : H.size + i = H.size + j := e
    omega
  · obtain ⟨x1, _, rfl⟩ := hat k y hy
    exact hA _ (Nat.le_trans hS.1 (Nat.le_add_right _ _))
  · obtain ⟨y1, _, rfl⟩ := hat j y hy2
    have h1 := (hP i x hx2).lt
    have e : x.1 = H.size + j := e
    omega
theorem mb_mna {T : List Cond} {cl : List vw_C} {J : mx_J} {R : Room} {tb : List ExceptionTableEntry} {X : Option (Nat × (Nat → Int32))} {Z : mx_ZT} {n9 z9 k index : Nat} {ls rest : List Value} {hp : List va_E} (hd : decode J.2.1 k = .ok (.multianewarray index 2, 4)) (w1 : Cond.classLink J.1.cls index ("[" ++ (FieldType.array .int).toString) ∈ T) (w2 : Cond.arrayClass .int ∈ T) (hcells : n9 + 14 ≤ R.cells) (hslots : z9 + 182 ≤ R.slots) (hlen : hp.length + 14 ≤ 1000)
    (kk : mx_B T cl J R tb X Z true (n9 + 14) (z9 + 182) (k + 4) ls (.ref hp.length :: rest) (hp ++ (eG (hp.length + 1) :: List.replicate 13 (eI 13 (fun _ => 0))))) : mx_B T cl J R tb X Z true n9 z9 k ls (.int 13 :: .int 13 :: rest) hp := by
  intro l p e s m args below meth c D dT q A H locs lsA hC hl hq hP hD hS
  have hw := hC.2.2.2.2.2.1
  have hK := hC.2.2.2.2.2.2.1
  have c13 : (13 : Int32).toNatClampNeg = 13 := rfl
  intro Tt hT Xs
  obtain ⟨vm₁, cA, comp, -, fA, fC, hO, -, X', step⟩ := Xs.multianewarray2F (ty := .int) hC.1 hC.2.2.2.2.1 (hw _ w1) (hC.2.2.2.2.2.2.2.2.2.2.1.2.2.2.1) (hw _ w2) (g := F0 m k lsA (.int 13 :: .int 13 :: rest.map (mx_v q))) rfl (by rw [hC.2.1]; exact hd) rfl (n := 13) (k := 13) (by decide) (by decide) (by decide) (by decide) (by decide) rfl rfl (by rw [c13]; exact hcells) (by rw [c13]; exact hslots)
  have eA : cA = dT 3 := Option.some.inj (fA.symm.trans (hK.2 3 _ rfl).2)
  have eC : comp = dT 0 := Option.some.inj (fC.symm.trans (hK.2 0 _ rfl).2)
  subst eA; subst eC
  rw [c13] at X' step
  have hTh : (Tt.setVm vm₁).heap = H := hT
  obtain ⟨f1, f2, -, -⟩ := Jvm.Free.Multi.fill_facts (Tt.setVm vm₁) (dT 3) (dT 0) 13 13 (defaultValue .int) 13
  have hold : ∀ x : Nat, x < H.size → (Jvm.Free.Multi.fill (Tt.setVm vm₁) (dT 3) (dT 0) 13 13 (defaultValue .int) 13).heap[x]? = H[x]? := fun x hx => by
    have := Jvm.Free.Multi.fill_old (Tt.setVm vm₁) (dT 3) (dT 0) 13 13 (defaultValue .int) (a := x) (by rw [hTh]; exact hx) 13
    rw [hTh] at this
    exact this
  have hrow : ∀ j : Nat, j < 13 → (Jvm.Free.Multi.fill (Tt.setVm vm₁) (dT 3) (dT 0) 13 13 (defaultValue .int) 13).heap[H.size + 1 + j]? = some (vp_cell (dT 0) (13, .inl (fun _ => 0))) := fun j hj => by
    have := Jvm.Free.Multi.fill_inner (Tt.setVm vm₁) (dT 3) (dT 0) 13 13 (defaultValue .int) 13 j hj
    rw [hTh] at this
    rw [this, vp_cell_i]
    show some ({ cls := dT 0, slots := Array.replicate 13 (defaultValue .int), vm := .none } : Cell) = _
    rw [arrV_new]
    rfl
  rw [hTh] at f1 f2
  generalize Jvm.Free.Multi.fill (Tt.setVm vm₁) (dT 3) (dT 0) 13 13 (defaultValue .int) 13 = F at X' step f1 f2 hold hrow
  have hql : q hp.length = H.size := by rw [hq rfl _ (Nat.le_refl _) (by omega)]; omega
  obtain ⟨g2, g3, g4, g5⟩ := mx_grows (H1 := F.heap) (xs := eG (hp.length + 1) :: List.replicate 13 (eI 13 (fun _ => 0))) (by simp; omega) hq hP hD hS hC.2.2.2.2.2.2.2.2.1 (by rw [f1]; simp) hold (fun j x hx => by
    cases j with
    | zero =>
      cases hx
      show F.heap[H.size + 0]? = some (vp_cell (dT 3) (13, .inr (.inr (.inr (.inr (fun i => (if i < 13 then some (hp.length + 1 + i) else none).map q))))))
      rw [Nat.add_zero, f2, mx_outer, vp_cell_q]
      refine congrArg (fun f => some (arrV (dT 3) 13 f)) (funext fun j => ?_)
      by_cases hj : j < 13
      · rw [if_pos hj, if_pos hj]
        show va_rf (some (H.size + 1 + j)) = va_rf (some (q (hp.length + 1 + j)))
        rw [hq rfl (hp.length + 1 + j) (by omega) (by omega), show H.size + (hp.length + 1 + j - hp.length) = H.size + 1 + j by omega]
      · rw [if_neg hj, if_neg hj]
        rfl
    | succ j =>
      rw [List.getElem?_cons_succ] at hx
      have hj : j < 13 := by have := (List.getElem?_eq_some_iff.mp hx).1; simpa using this
      rw [List.getElem?_replicate, if_pos hj] at hx
      cases hx
      show F.heap[H.size + (j + 1)]? = some (vp_cell (dT 0) (13, .inl (fun _ => 0)))
      rw [show H.size + (j + 1) = H.size + 1 + j by omega]
      exact hrow j hj)
  have KK := kk l p e s m args below meth c D dT q A F.heap locs lsA hC hl g2 g3 g4 g5
  rw [List.map_cons, show mx_v q (.ref hp.length) = .ref H.size from congrArg Value.ref hql] at KK
  obtain ⟨t2, a1, b1⟩ := KK F rfl X'
  refine ⟨t2, step t2 ?_, b1⟩
  rw [hT]
  exact a1
