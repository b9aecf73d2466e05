/-! The engine: a method's walk over a PICTURE (a list of numbered cells; a reference is a cell's number), every row one instruction; the machine's side conditions stand in mx_C once. -/
abbrev mx_J : Type := MethodName × ByteArray × Nat × Option FieldType
abbrev mx_O : Type := Option Value ⊕ Nat
def mx_v (q : Nat → Nat) : Value → Value
  | .ref k => .ref (q k)
  | .int x => .int x
  | .long x => .long x
  | .float x => .float x
  | .double x => .double x
  | .null => .null
  | .retAddr k => .retAddr k
theorem mx_v_cat (q : Nat → Nat) (v : Value) : (mx_v q v).category = v.category := by cases v <;> rfl
def mx_a (q : Nat → Nat) (a : vp_A) : vp_A := match a with
  | (n, .inl f) => (n, .inl f)
  | (n, .inr (.inl f)) => (n, .inr (.inl f))
  | (n, .inr (.inr (.inl f))) => (n, .inr (.inr (.inl f)))
  | (n, .inr (.inr (.inr (.inl f)))) => (n, .inr (.inr (.inr (.inl f))))
  | (n, .inr (.inr (.inr (.inr f)))) => (n, .inr (.inr (.inr (.inr (fun i => (f i).map q)))))
def mx_e (q : Nat → Nat) (dT : Nat → ClassId) (x : va_E) : va_E := match x with
  | .inl (t, a) => .inl (dT t, mx_a q a)
  | .inr (c, fs) => .inr (c, fs.map (mx_v q))
def mx_w (q : Nat → Nat) (dT : Nat → ClassId) (hp : List va_E) : va_W := hp.mapIdx (fun k x => (q k, mx_e q dT x))
theorem mx_w_get {q : Nat → Nat} {dT : Nat → ClassId} {hp : List va_E} {k : Nat} {x : va_E} (h : hp[k]? = some x) : (mx_w q dT hp)[k]? = some (q k, mx_e q dT x) := by
  simp [mx_w, List.getElem?_mapIdx, h]
theorem mx_w_set (q : Nat → Nat) (dT : Nat → ClassId) (hp : List va_E) (k : Nat) (x : va_E) : (mx_w q dT hp).set k (q k, mx_e q dT x) = mx_w q dT (hp.set k x) := by
  apply List.ext_getElem?
  intro i
  simp only [mx_w, List.getElem?_set, List.getElem?_mapIdx, List.length_mapIdx]
  by_cases h : k = i
  · subst h
    by_cases h2 : k < hp.length <;> simp [h2]
  · simp [h]
def mx_tys (dT : Nat → ClassId) : List (ClassId × FieldType) := [(dT 0, .int), (dT 1, .long), (dT 2, .boolean), (dT 3, .array .int)]
/-- the locals by place; .retAddr 0 stands where nothing is known -/
def mx_l (q : Nat → Nat) (ls : List Value) : List (Nat × Value) := (ls.mapIdx (fun i v => (i, v))).filterMap (fun x => match x.2 with
  | .retAddr _ => none
  | v => some (x.1, mx_v q v))
theorem mx_l_mem {q : Nat → Nat} {ls : List Value} {x : Nat × Value} : x ∈ mx_l q ls ↔ ∃ v, ls[x.1]? = some v ∧ (∀ k, v ≠ .retAddr k) ∧ x.2 = mx_v q v := by
  obtain ⟨i, w⟩ := x
  simp only [mx_l, List.mem_filterMap]
  constructor
  · rintro ⟨⟨j, v⟩, h1, h2⟩
    obtain ⟨n, h3⟩ := List.getElem?_of_mem h1
    rw [List.getElem?_mapIdx] at h3
    cases h4 : ls[n]? with
    | none => rw [h4] at h3; cases h3
    | some u =>
      rw [h4] at h3
      cases h3
      cases v <;> first | (cases h2; done) | (cases h2; exact ⟨_, h4, fun k => by simp, rfl⟩)
  · rintro ⟨v, h1, h2, h3⟩
    refine ⟨(i, v), ?_, ?_⟩
    · refine List.mem_of_getElem? (i := i) ?_
      rw [List.getElem?_mapIdx, h1]
      rfl
    · (try dsimp only at h3)
      subst h3
      cases v <;> first | rfl | exact absurd rfl (h2 _)
theorem mx_has_mono {ls : Array Slot} {n : Nat} {l l' : List (Nat × Value)} (h : lv_has ls n l) (hs : ∀ x ∈ l', x ∈ l) : lv_has ls n l' := ⟨h.1, h.2.1, fun x hx => h.2.2 x (hs x hx)⟩
theorem mx_at {q : Nat → Nat} {ls : List Value} {lsA : Array Slot} {n i : Nat} {v : Value} (h : lv_has lsA n (mx_l q ls)) (hi : ls[i]? = some v) (hv : ∀ k, v ≠ .retAddr k) : lsA[i]? = some (.val (mx_v q v)) := h.2.2 (i, mx_v q v) (mx_l_mem.mpr ⟨v, hi, hv, rfl⟩)
def mx_cat1 (ls : List Value) : Bool := ls.all (fun v => v.category == 1)
theorem mx_st1 {q : Nat → Nat} {ls : List Value} {i : Nat} {v : Value} (hc : mx_cat1 ls = true) : ∀ x ∈ mx_l q (ls.set i v), x ∈ (i, mx_v q v) :: (mx_l q ls).filter (fun z => !(z.1 == i) && !(z.1 + 1 == i && z.2.category == 2)) := by
  intro x hx
  obtain ⟨w, h1, h2, h3⟩ := mx_l_mem.mp hx
  by_cases h : x.1 = i
  · rw [h, List.getElem?_set] at h1
    simp only [if_true] at h1
    by_cases h5 : i < ls.length
    · simp only [h5, if_true] at h1
      cases h1
      obtain ⟨a, b⟩ := x
      dsimp only at h h3
      subst h; subst h3
      exact List.mem_cons_self
    · simp [h5] at h1
  · rw [List.getElem?_set, if_neg (fun e => h e.symm)] at h1
    refine List.mem_cons_of_mem _ (List.mem_filter.mpr ⟨mx_l_mem.mpr ⟨w, h1, h2, h3⟩, ?_⟩)
    have hw : w.category = 1 := by
      have := List.all_eq_true.mp hc w (List.mem_of_getElem? h1)
      simpa using this
    rw [h3, mx_v_cat, hw]
    simp [h]
theorem mx_st2 {q : Nat → Nat} {ls : List Value} {i : Nat} {v : Value} (hc : mx_cat1 ls = true) : ∀ x ∈ mx_l q ((ls.set i v).set (i + 1) (.retAddr 0)), x ∈ (i, mx_v q v) :: (mx_l q ls).filter (fun z => !(z.1 == i) && (!(z.1 == i + 1) && !(z.1 + 1 == i && z.2.category == 2))) := by
  intro x hx
  obtain ⟨w, h1, h2, h3⟩ := mx_l_mem.mp hx
  by_cases h6 : x.1 = i + 1
  · rw [h6, List.getElem?_set] at h1
    simp only [if_true, List.length_set] at h1
    by_cases h5 : i + 1 < ls.length
    · simp only [h5, if_true] at h1
      cases h1
      exact absurd rfl (h2 0)
    · simp [h5] at h1
  · rw [List.getElem?_set, if_neg (fun e => h6 e.symm)] at h1
    by_cases h : x.1 = i
    · rw [h, List.getElem?_set] at h1
      simp only [if_true] at h1
      by_cases h5 : i < ls.length
      · simp only [h5, if_true] at h1
        cases h1
        obtain ⟨a, b⟩ := x
        dsimp only at h h3
        subst h; subst h3
        exact List.mem_cons_self
      · simp [h5] at h1
    · rw [List.getElem?_set, if_neg (fun e => h e.symm)] at h1
      refine List.mem_cons_of_mem _ (List.mem_filter.mpr ⟨mx_l_mem.mpr ⟨w, h1, h2, h3⟩, ?_⟩)
      have hw : w.category = 1 := by
        have := List.all_eq_true.mp hc w (List.mem_of_getElem? h1)
        simpa using this
      rw [h3, mx_v_cat, hw]
      simp [h, h6]
/-- a static field of the library that holds a reference or null -/
def mx_Sf (C n d : String) (s : State) : Prop := ∃ (cf : ClassId) (kf : Class) (fi : Nat) (f : Field) (a : Nat) (cell : Cell) (v : Value), s.fieldFound? C n d = some (cf, kf, fi, f) ∧ f.isStatic = true ∧ kf.statics = some a ∧ s.heap[a]? = some cell ∧ cell.vm.isStatics = true ∧ cell.slots[f.slot]? = some v ∧ (v = .null ∨ ∃ t, v = .ref t) ∧ s.vm.findClass C = some cf ∧ cell.cls = cf ∧ f.slot < cell.slots.size ∧ kf.staticTypes[f.slot]? = some f.type
theorem mx_Sf_moved {C n d : String} {s U : State} (hvm : s.vm.Alike U.vm) (hk : ∀ (a : Nat) (cell : Cell), s.heap[a]? = some cell → cell.vm.isStatics = true → U.heap[a]? = some cell) (h : mx_Sf C n d s) : mx_Sf C n d U := by
  obtain ⟨cf, kf, fi, f, a, cell, v, h1, h2, h3, h4, h5, h6, h7, h8, h9, h10, h11⟩ := h
  obtain ⟨k', hi', he⟩ := State.fieldFound?_setVm hvm h1
  exact ⟨cf, k', fi, f, a, cell, v, hi', h2, by rw [he]; exact h3, hk a cell h4 h5, h5, h6, h7, by rw [hvm.findClass]; exact h8, h9, h10, by rw [he]; exact h11⟩
/-- kinds that no object of the other kind is -/
def mx_nc : List (String × String) := [("java/lang/UnsupportedOperationException", "java/lang/IllegalArgumentException"), ("java/lang/IllegalArgumentException", "java/util/NoSuchElementException"), ("java/lang/IllegalStateException", "java/util/NoSuchElementException"), ("java/lang/IllegalArgumentException", "java/lang/IllegalStateException")]
/-- what else is carried of the start: rows of rows can be made; kinds that aren't others -/
def mx_W0 (s : State) : Prop := (Cond.arrayOver (.array .int)).before #[] s = true ∧ ∀ x ∈ mx_nc, ∀ c t, s.vm.findClass x.1 = some c → s.vm.findClass x.2 = some t → s.vm.assignable c t = false
theorem mx_W0_moved {u U : State} (hvm : u.vm.Alike U.vm) (h : mx_W0 u) : mx_W0 U := by
  refine ⟨?_, fun x hx c t h1 h2 => ?_⟩
  · have hA : ∃ comp c k, u.vm.findClass (FieldType.array .int).toString = some comp ∧ (u.vm.classes.findIdx? fun (x : Class) => match x.kind with | .array component _ => component == comp | _ => false) = some c ∧ u.vm.classes[c]? = some k ∧ k.kind = .array comp (.array .int) ∧ u.vm.findClass ("[" ++ (FieldType.array .int).toString) = some c := by
      have hA := h.1
      simp only [Cond.before, Cond.holds, Cond.value, beq_iff_eq] at hA
      cases hc : u.vm.findClass (FieldType.array .int).toString with
      | none => simp [hc] at hA
      | some comp =>
        simp only [hc, Option.bind_some, Option.bind_eq_some_iff, Option.map_eq_some_iff] at hA
        obtain ⟨c, hi, k, hk, hb⟩ := hA
        obtain ⟨hlt, hp, -⟩ := Array.findIdx?_eq_some_iff_getElem.mp hi
        have hkk : u.vm.classes[c] = k := (Array.getElem?_eq_some_iff.mp hk).2
        rw [hkk] at hp
        cases hkind : k.kind with
        | array component ty =>
          rw [hkind] at hb hp
          simp at hb hp
          exact ⟨comp, c, k, rfl, hi, hk, by rw [hkind, hp, hb.1], hb.2⟩
        | _ => rw [hkind] at hb; simp at hb
    obtain ⟨comp, c, k, h1, h2, h3, h4, h5⟩ := hA
    obtain ⟨k', hk', he⟩ := hvm.2.2 _ _ h3
    have hi : (U.vm.classes.findIdx? fun (x : Class) => match x.kind with | .array component _ => component == comp | _ => false) = some c := by
      refine (va_idx_bare U.vm comp).symm.trans ?_
      first | rw [hvm.bare_eq] | rw [← hvm.bare_eq]
      exact (va_idx_bare u.vm comp).trans h2
    have hkind : k'.kind = .array comp (.array .int) := by rw [he]; exact h4
    have f1 : U.vm.findClass (FieldType.array .int).toString = some comp := by rw [hvm.findClass]; exact h1
    have f2 : U.vm.findClass ("[" ++ (FieldType.array .int).toString) = some c := by rw [hvm.findClass]; exact h5
    unfold Cond.before Cond.holds
    simp only [Cond.value]
    rw [f1, Option.bind_some]
    refine (congrArg (fun o : Option Nat => (o.bind (fun c => (U.vm.classes[c]?).map fun (k : Class) => match k.kind with | .array _ ty => decide (ty = FieldType.array .int) && decide (U.vm.findClass ("[" ++ (FieldType.array .int).toString) = some c) | _ => false) == some true)) hi).trans ?_
    simp [hk', hkind, f2]
  · rw [hvm.findClass] at h1 h2
    rw [hvm.assignable]
    exact h.2 x hx c t h1 h2
/-- what a throw needs beside the words: no stack traces, the two statics of Throwable -/
def mx_Z0 (l : Launch) (s : State) : Prop := (∀ e : Env, l.admits e → e.platform.stackTraces = false) ∧ mx_Sf "java/lang/Throwable" "UNASSIGNED_STACK" "[Ljava/lang/StackTraceElement;" s ∧ mx_Sf "java/lang/Throwable" "SUPPRESSED_SENTINEL" "Ljava/util/List;" s ∧ mx_W0 s
theorem mx_Z0_moved {l : Launch} {s U : State} (hvm : s.vm.Alike U.vm) (hk : ∀ (a : Nat) (cell : Cell), s.heap[a]? = some cell → cell.vm.isStatics = true → U.heap[a]? = some cell) (h : mx_Z0 l s) : mx_Z0 l U := ⟨h.1, mx_Sf_moved hvm hk h.2.1, mx_Sf_moved hvm hk h.2.2.1, mx_W0_moved hvm h.2.2.2⟩
/-- what stays the same through one run of a method -/
def mx_C (T : List Cond) (cl : List vw_C) (J : mx_J) (l : Launch) (p : Program) (s : State) (m : MethodId) (args : Array Value) (meth : Method) (c : Code) (D : va_G) (dT : Nat → ClassId) (A : Nat → Prop) : Prop :=
  p.tables.exec = Jvm.exec ∧ c.code = J.2.1 ∧ meth.sig.returnType = J.2.2.2 ∧ c.maxLocals = J.2.2.1 ∧ s.vm.findClass J.1.cls = some m.cls ∧ (∀ w ∈ T, w.before args s = true) ∧ va_K D cl (mx_tys dT) s ∧ meth.locks = false ∧ (∀ r : Nat, s.heap.size ≤ r → A r) ∧ (∀ r : Nat, A r → ∀ cell : Cell, s.heap[r]? = some cell → cell.vm.isStatics = false) ∧ mx_Z0 l s ∧ c.exceptionTable.isEmpty = true
/-- how a run ends: an answer (nothing new in the heap), or an exception of the kind X (one new cell) -/
def mx_end (q : Nat → Nat) (A : Nat → Prop) (K : Nat → Addr → State → State → Prop) (s : State) (o : Outcome) (r : mx_O) (t : State) : Prop := match r with
  | .inl v => o = .returned (v.map (mx_v q)) ∧ ∃ L, FrameEnd s o t L 0 0 ∧ ∀ x ∈ L, A x.base
  | .inr X => ∃ a, o = .threw a ∧ K X a s t ∧ ∃ L, FramedT s o t L 1 6 ∧ ∀ x ∈ L, A x.base
def mx_Z (K : Nat → Addr → State → State → Prop) (D : va_G) (cl : List vw_C) (dT : Nat → ClassId) (q : Nat → Nat) (A : Nat → Prop) (Q : mx_O → List va_E → Prop) (below : List Frame) (s : State) : State → Prop := fun t =>
  ∃ (o : Outcome) (r : mx_O) (hp' : List va_E), t.status = .running ∧ Ended t below o ∧ Q r hp' ∧ va_P D cl (mx_w q dT hp') t.heap ∧ va_D A (mx_w q dT hp') ∧ va_F A s t ∧ mx_end q A K s o r t
/-- THE JUDGEMENT: from place k of method J, with locals ls, stack st, picture hp, the run comes to an end with Q -/
def mx_W (K : Nat → Addr → State → State → Prop) (T : List Cond) (cl : List vw_C) (J : mx_J) (R : Room) (k : Nat) (ls st : List Value) (hp : List va_E) (Q : mx_O → List va_E → Prop) : Prop :=
  ∀ (l : Launch) (p : Program) (e : Env) (s : State) (m : MethodId) (args : Array Value) (below : List Frame) (meth : Method) (c : Code) (D : va_G) (dT : Nat → ClassId) (q : Nat → Nat) (A : Nat → Prop) (H : Heap) (locs : List Loc) (lsA : Array Slot),
    mx_C T cl J l p s m args meth c D dT A → lv_has lsA J.2.2.1 (mx_l q ls) → va_P D cl (mx_w q dT hp) H → va_D A (mx_w q dT hp) → va_S A s.heap H locs →
    W p l e R s m args below meth c H locs 0 0 (mx_Z K D cl dT q A Q below s) (F0 m k lsA (st.map (mx_v q)))
theorem mx_Wmono {p : Program} {l : Launch} {e : Env} {R : Room} {s : State} {m : MethodId} {args : Array Value} {below : List Frame} {meth : Method} {c : Code} {H : Heap} {locs : List Loc} {cells slots : Nat} {Q Q' : State → Prop} {g : JFrame} (h : ∀ t, Q t → Q' t) (k : W p l e R s m args below meth c H locs cells slots Q g) : W p l e R s m args below meth c H locs cells slots Q' g := fun T hT X => by
  obtain ⟨t, a, b⟩ := k T hT X
  exact ⟨t, a, h t b⟩
section MX
variable {K : Nat → Addr → State → State → Prop} {T : List Cond} {cl : List vw_C} {J : mx_J} {R : Room} {k : Nat} {ls rest : List Value} {hp : List va_E} {Q : mx_O → List va_E → Prop}
theorem mx_post {Q' : mx_O → List va_E → Prop} {st : List Value} (h : ∀ r hp', Q r hp' → Q' r hp') (kk : mx_W K T cl J R k ls st hp Q) : mx_W K T cl J R k ls st hp Q' := by
  intro l p e s m args below meth c D dT q A H locs lsA hC hl hP hD hS
  refine mx_Wmono ?_ (kk l p e s m args below meth c D dT q A H locs lsA hC hl hP hD hS)
  intro t ht
  obtain ⟨o, r, hp', h1, h2, h3, h4⟩ := ht
  exact ⟨o, r, hp', h1, h2, h _ _ h3, h4⟩
theorem mx_eqs {k' : Nat} {ls' st st' : List Value} {hp' : List va_E} (h1 : k = k') (h2 : ls = ls') (h3 : st = st') (h4 : hp = hp') (kk : mx_W K T cl J R k' ls' st' hp' Q) : mx_W K T cl J R k ls st hp Q := by
  subst h1; subst h2; subst h3; subst h4; exact kk
theorem mx_iconst {n : Int} (x : Int32) (hd : decode J.2.1 k = .ok (.iconst n, 1)) (hv : Int32.ofInt n = x)
    (kk : mx_W K T cl J R (k + 1) ls (.int x :: rest) hp Q) : mx_W K T cl J R k ls (rest) hp Q := by
  intro l p e s m args below meth c D dT q A H locs lsA hC hl hP hD hS
  exact lv_iconst hC.1 hC.2.1 hd hv (kk l p e s m args below meth c D dT q A H locs lsA hC hl hP hD hS)
theorem mx_bipush {n : Int} (x : Int32) (hd : decode J.2.1 k = .ok (.bipush n, 2)) (hv : (Int8.ofInt n).toInt32 = x)
    (kk : mx_W K T cl J R (k + 2) ls (.int x :: rest) hp Q) : mx_W K T cl J R k ls (rest) hp Q := by
  intro l p e s m args below meth c D dT q A H locs lsA hC hl hP hD hS
  exact lv_bipush hC.1 hC.2.1 hd hv (kk l p e s m args below meth c D dT q A H locs lsA hC hl hP hD hS)
theorem mx_sipush {n : Int} (x : Int32) (hd : decode J.2.1 k = .ok (.sipush n, 3)) (hv : (Int16.ofInt n).toInt32 = x)
    (kk : mx_W K T cl J R (k + 3) ls (.int x :: rest) hp Q) : mx_W K T cl J R k ls (rest) hp Q := by
  intro l p e s m args below meth c D dT q A H locs lsA hC hl hP hD hS
  exact lv_sipush hC.1 hC.2.1 hd hv (kk l p e s m args below meth c D dT q A H locs lsA hC hl hP hD hS)
theorem mx_lconst {n : Fin 2} (x : Int64) (hd : decode J.2.1 k = .ok (.lconst n, 1)) (hv : Int64.ofNat (n : Nat) = x)
    (kk : mx_W K T cl J R (k + 1) ls (.long x :: rest) hp Q) : mx_W K T cl J R k ls (rest) hp Q := by
  intro l p e s m args below meth c D dT q A H locs lsA hC hl hP hD hS
  exact lv_lconst hC.1 hC.2.1 hd hv (kk l p e s m args below meth c D dT q A H locs lsA hC hl hP hD hS)
theorem mx_iload_n {n : Fin 4} {x : Int32} (hd : decode J.2.1 k = .ok (.iload_n n, 1)) (hi : ls[(n : Nat)]? = some (.int x))
    (kk : mx_W K T cl J R (k + 1) ls (.int x :: rest) hp Q) : mx_W K T cl J R k ls rest hp Q := by
  intro l p e s m args below meth c D dT q A H locs lsA hC hl hP hD hS
  exact lv_iload_n hC.1 hC.2.1 hd rfl (mx_at hl hi (fun _ => by simp)) (kk l p e s m args below meth c D dT q A H locs lsA hC hl hP hD hS)
theorem mx_iload {i : Nat} {x : Int32} (hd : decode J.2.1 k = .ok (.iload i, 2)) (hi : ls[i]? = some (.int x))
    (kk : mx_W K T cl J R (k + 2) ls (.int x :: rest) hp Q) : mx_W K T cl J R k ls rest hp Q := by
  intro l p e s m args below meth c D dT q A H locs lsA hC hl hP hD hS
  exact lv_iload hC.1 hC.2.1 hd (mx_at hl hi (fun _ => by simp)) (kk l p e s m args below meth c D dT q A H locs lsA hC hl hP hD hS)
theorem mx_lload_n {n : Fin 4} {x : Int64} (hd : decode J.2.1 k = .ok (.lload_n n, 1)) (hi : ls[(n : Nat)]? = some (.long x))
    (kk : mx_W K T cl J R (k + 1) ls (.long x :: rest) hp Q) : mx_W K T cl J R k ls rest hp Q := by
  intro l p e s m args below meth c D dT q A H locs lsA hC hl hP hD hS
  exact lv_lload_n hC.1 hC.2.1 hd rfl (mx_at hl hi (fun _ => by simp)) (kk l p e s m args below meth c D dT q A H locs lsA hC hl hP hD hS)
theorem mx_lload {i : Nat} {x : Int64} (hd : decode J.2.1 k = .ok (.lload i, 2)) (hi : ls[i]? = some (.long x))
    (kk : mx_W K T cl J R (k + 2) ls (.long x :: rest) hp Q) : mx_W K T cl J R k ls rest hp Q := by
  intro l p e s m args below meth c D dT q A H locs lsA hC hl hP hD hS
  exact lv_lload hC.1 hC.2.1 hd (mx_at hl hi (fun _ => by simp)) (kk l p e s m args below meth c D dT q A H locs lsA hC hl hP hD hS)
theorem mx_aload_n {n : Fin 4} {x : Nat} (hd : decode J.2.1 k = .ok (.aload_n n, 1)) (hi : ls[(n : Nat)]? = some (.ref x))
    (kk : mx_W K T cl J R (k + 1) ls (.ref x :: rest) hp Q) : mx_W K T cl J R k ls rest hp Q := by
  intro l p e s m args below meth c D dT q A H locs lsA hC hl hP hD hS
  exact lv_aload_n hC.1 hC.2.1 hd rfl (mx_at hl hi (fun _ => by simp)) (kk l p e s m args below meth c D dT q A H locs lsA hC hl hP hD hS)
theorem mx_aload {i : Nat} {x : Nat} (hd : decode J.2.1 k = .ok (.aload i, 2)) (hi : ls[i]? = some (.ref x))
    (kk : mx_W K T cl J R (k + 2) ls (.ref x :: rest) hp Q) : mx_W K T cl J R k ls rest hp Q := by
  intro l p e s m args below meth c D dT q A H locs lsA hC hl hP hD hS
  exact lv_aload hC.1 hC.2.1 hd (mx_at hl hi (fun _ => by simp)) (kk l p e s m args below meth c D dT q A H locs lsA hC hl hP hD hS)
theorem mx_istore_n {n : Fin 4} {x : Int32} (hd : decode J.2.1 k = .ok (.istore_n n, 1)) (hn : (n : Nat) < J.2.2.1) (hc : mx_cat1 ls = true)
    (kk : mx_W K T cl J R (k + 1) (ls.set (n : Nat) (.int x)) rest hp Q) : mx_W K T cl J R k ls (.int x :: rest) hp Q := by
  intro l p e s m args below meth c D dT q A H locs lsA hC hl hP hD hS
  exact lv_istore_n hC.1 hC.2.1 hd rfl hl hn rfl (fun lsB hB => kk l p e s m args below meth c D dT q A H locs lsB hC (mx_has_mono hB (mx_st1 (v := .int x) hc)) hP hD hS)
theorem mx_istore {i : Nat} {x : Int32} (hd : decode J.2.1 k = .ok (.istore i, 2)) (hn : i < J.2.2.1) (hc : mx_cat1 ls = true)
    (kk : mx_W K T cl J R (k + 2) (ls.set i (.int x)) rest hp Q) : mx_W K T cl J R k ls (.int x :: rest) hp Q := by
  intro l p e s m args below meth c D dT q A H locs lsA hC hl hP hD hS
  exact lv_istore hC.1 hC.2.1 hd hl hn rfl (fun lsB hB => kk l p e s m args below meth c D dT q A H locs lsB hC (mx_has_mono hB (mx_st1 (v := .int x) hc)) hP hD hS)
theorem mx_astore_n {n : Fin 4} {x : Nat} (hd : decode J.2.1 k = .ok (.astore_n n, 1)) (hn : (n : Nat) < J.2.2.1) (hc : mx_cat1 ls = true)
    (kk : mx_W K T cl J R (k + 1) (ls.set (n : Nat) (.ref x)) rest hp Q) : mx_W K T cl J R k ls (.ref x :: rest) hp Q := by
  intro l p e s m args below meth c D dT q A H locs lsA hC hl hP hD hS
  exact lv_astore_n hC.1 hC.2.1 hd rfl hl hn rfl (fun lsB hB => kk l p e s m args below meth c D dT q A H locs lsB hC (mx_has_mono hB (mx_st1 (v := .ref x) hc)) hP hD hS)
theorem mx_astore {i : Nat} {x : Nat} (hd : decode J.2.1 k = .ok (.astore i, 2)) (hn : i < J.2.2.1) (hc : mx_cat1 ls = true)
    (kk : mx_W K T cl J R (k + 2) (ls.set i (.ref x)) rest hp Q) : mx_W K T cl J R k ls (.ref x :: rest) hp Q := by
  intro l p e s m args below meth c D dT q A H locs lsA hC hl hP hD hS
  exact lv_astore hC.1 hC.2.1 hd hl hn rfl (fun lsB hB => kk l p e s m args below meth c D dT q A H locs lsB hC (mx_has_mono hB (mx_st1 (v := .ref x) hc)) hP hD hS)
theorem mx_lstore_n {n : Fin 4} {x : Int64} (hd : decode J.2.1 k = .ok (.lstore_n n, 1)) (hn : (n : Nat) + 1 < J.2.2.1) (hc : mx_cat1 ls = true)
    (kk : mx_W K T cl J R (k + 1) ((ls.set (n : Nat) (.long x)).set ((n : Nat) + 1) (.retAddr 0)) rest hp Q) : mx_W K T cl J R k ls (.long x :: rest) hp Q := by
  intro l p e s m args below meth c D dT q A H locs lsA hC hl hP hD hS
  exact lv_lstore_n hC.1 hC.2.1 hd rfl hl hn rfl (fun lsB hB => kk l p e s m args below meth c D dT q A H locs lsB hC (mx_has_mono hB (mx_st2 (v := .long x) hc)) hP hD hS)
theorem mx_lstore {i : Nat} {x : Int64} (hd : decode J.2.1 k = .ok (.lstore i, 2)) (hn : i + 1 < J.2.2.1) (hc : mx_cat1 ls = true)
    (kk : mx_W K T cl J R (k + 2) ((ls.set i (.long x)).set (i + 1) (.retAddr 0)) rest hp Q) : mx_W K T cl J R k ls (.long x :: rest) hp Q := by
  intro l p e s m args below meth c D dT q A H locs lsA hC hl hP hD hS
  exact lv_lstore hC.1 hC.2.1 hd hl hn rfl (fun lsB hB => kk l p e s m args below meth c D dT q A H locs lsB hC (mx_has_mono hB (mx_st2 (v := .long x) hc)) hP hD hS)
theorem mx_iinc {i : Nat} {n : Int} {x y : Int32} (hd : decode J.2.1 k = .ok (.iinc i n, 3)) (hi : ls[i]? = some (.int x)) (hv : x + Int32.ofInt n = y) (hn : i < J.2.2.1) (hc : mx_cat1 ls = true)
    (kk : mx_W K T cl J R (k + 3) (ls.set i (.int y)) rest hp Q) : mx_W K T cl J R k ls rest hp Q := by
  intro l p e s m args below meth c D dT q A H locs lsA hC hl hP hD hS
  obtain ⟨j, hj⟩ := List.getElem?_of_mem (mx_l_mem (q := q).mpr ⟨_, hi, (fun _ => by simp), rfl⟩ : (i, Value.int x) ∈ mx_l q ls)
  exact lv_iinc hC.1 hC.2.1 hd hl hj hv hn rfl (fun lsB hB => kk l p e s m args below meth c D dT q A H locs lsB hC (mx_has_mono hB (mx_st1 (v := .int y) hc)) hP hD hS)
theorem mx_iadd {x y : Int32} (hd : decode J.2.1 k = .ok (.iadd, 1)) 
    (kk : mx_W K T cl J R (k + 1) ls (.int (x + y) :: rest) hp Q) : mx_W K T cl J R k ls (.int y :: .int x :: rest) hp Q := by
  intro l p e s m args below meth c D dT q A H locs lsA hC hl hP hD hS
  exact lv_iadd hC.1 hC.2.1 hd  (kk l p e s m args below meth c D dT q A H locs lsA hC hl hP hD hS)
theorem mx_isub {x y : Int32} (hd : decode J.2.1 k = .ok (.isub, 1)) 
    (kk : mx_W K T cl J R (k + 1) ls (.int (x - y) :: rest) hp Q) : mx_W K T cl J R k ls (.int y :: .int x :: rest) hp Q := by
  intro l p e s m args below meth c D dT q A H locs lsA hC hl hP hD hS
  exact lv_isub hC.1 hC.2.1 hd  (kk l p e s m args below meth c D dT q A H locs lsA hC hl hP hD hS)
theorem mx_imul {x y : Int32} (hd : decode J.2.1 k = .ok (.imul, 1)) 
    (kk : mx_W K T cl J R (k + 1) ls (.int (x * y) :: rest) hp Q) : mx_W K T cl J R k ls (.int y :: .int x :: rest) hp Q := by
  intro l p e s m args below meth c D dT q A H locs lsA hC hl hP hD hS
  exact lv_imul hC.1 hC.2.1 hd  (kk l p e s m args below meth c D dT q A H locs lsA hC hl hP hD hS)
theorem mx_iand {x y : Int32} (hd : decode J.2.1 k = .ok (.iand, 1)) 
    (kk : mx_W K T cl J R (k + 1) ls (.int (x &&& y) :: rest) hp Q) : mx_W K T cl J R k ls (.int y :: .int x :: rest) hp Q := by
  intro l p e s m args below meth c D dT q A H locs lsA hC hl hP hD hS
  exact lv_iand hC.1 hC.2.1 hd  (kk l p e s m args below meth c D dT q A H locs lsA hC hl hP hD hS)
theorem mx_ior {x y : Int32} (hd : decode J.2.1 k = .ok (.ior, 1)) 
    (kk : mx_W K T cl J R (k + 1) ls (.int (x ||| y) :: rest) hp Q) : mx_W K T cl J R k ls (.int y :: .int x :: rest) hp Q := by
  intro l p e s m args below meth c D dT q A H locs lsA hC hl hP hD hS
  exact lv_ior hC.1 hC.2.1 hd  (kk l p e s m args below meth c D dT q A H locs lsA hC hl hP hD hS)
theorem mx_ixor {x y : Int32} (hd : decode J.2.1 k = .ok (.ixor, 1)) 
    (kk : mx_W K T cl J R (k + 1) ls (.int (x ^^^ y) :: rest) hp Q) : mx_W K T cl J R k ls (.int y :: .int x :: rest) hp Q := by
  intro l p e s m args below meth c D dT q A H locs lsA hC hl hP hD hS
  exact lv_ixor hC.1 hC.2.1 hd  (kk l p e s m args below meth c D dT q A H locs lsA hC hl hP hD hS)
theorem mx_ladd {x y : Int64} (hd : decode J.2.1 k = .ok (.ladd, 1)) 
    (kk : mx_W K T cl J R (k + 1) ls (.long (x + y) :: rest) hp Q) : mx_W K T cl J R k ls (.long y :: .long x :: rest) hp Q := by
  intro l p e s m args below meth c D dT q A H locs lsA hC hl hP hD hS
  exact lv_ladd hC.1 hC.2.1 hd  (kk l p e s m args below meth c D dT q A H locs lsA hC hl hP hD hS)
theorem mx_land {x y : Int64} (hd : decode J.2.1 k = .ok (.land, 1)) 
    (kk : mx_W K T cl J R (k + 1) ls (.long (x &&& y) :: rest) hp Q) : mx_W K T cl J R k ls (.long y :: .long x :: rest) hp Q := by
  intro l p e s m args below meth c D dT q A H locs lsA hC hl hP hD hS
  exact lv_land hC.1 hC.2.1 hd  (kk l p e s m args below meth c D dT q A H locs lsA hC hl hP hD hS)
theorem mx_lor {x y : Int64} (hd : decode J.2.1 k = .ok (.lor, 1)) 
    (kk : mx_W K T cl J R (k + 1) ls (.long (x ||| y) :: rest) hp Q) : mx_W K T cl J R k ls (.long y :: .long x :: rest) hp Q := by
  intro l p e s m args below meth c D dT q A H locs lsA hC hl hP hD hS
  exact lv_lor hC.1 hC.2.1 hd  (kk l p e s m args below meth c D dT q A H locs lsA hC hl hP hD hS)
theorem mx_lxor {x y : Int64} (hd : decode J.2.1 k = .ok (.lxor, 1)) 
    (kk : mx_W K T cl J R (k + 1) ls (.long (x ^^^ y) :: rest) hp Q) : mx_W K T cl J R k ls (.long y :: .long x :: rest) hp Q := by
  intro l p e s m args below meth c D dT q A H locs lsA hC hl hP hD hS
  exact lv_lxor hC.1 hC.2.1 hd  (kk l p e s m args below meth c D dT q A H locs lsA hC hl hP hD hS)
theorem mx_i2l {x : Int32} {y : Int64} (hd : decode J.2.1 k = .ok (.i2l, 1)) (hv : x.toInt64 = y)
    (kk : mx_W K T cl J R (k + 1) ls (.long y :: rest) hp Q) : mx_W K T cl J R k ls (.int x :: rest) hp Q := by
  intro l p e s m args below meth c D dT q A H locs lsA hC hl hP hD hS
  exact lv_i2l hC.1 hC.2.1 hd hv (kk l p e s m args below meth c D dT q A H locs lsA hC hl hP hD hS)
theorem mx_l2i {x : Int64} {y : Int32} (hd : decode J.2.1 k = .ok (.l2i, 1)) (hv : x.toInt32 = y)
    (kk : mx_W K T cl J R (k + 1) ls (.int y :: rest) hp Q) : mx_W K T cl J R k ls (.long x :: rest) hp Q := by
  intro l p e s m args below meth c D dT q A H locs lsA hC hl hP hD hS
  exact lv_l2i hC.1 hC.2.1 hd hv (kk l p e s m args below meth c D dT q A H locs lsA hC hl hP hD hS)
theorem mx_lushr {x z : Int64} {y : Int32} (hd : decode J.2.1 k = .ok (.lushr, 1)) (hv : (x.toUInt64 >>> (y.toInt64.toUInt64 &&& Int64.toUInt64 63)).toInt64 = z)
    (kk : mx_W K T cl J R (k + 1) ls (.long z :: rest) hp Q) : mx_W K T cl J R k ls (.int y :: .long x :: rest) hp Q := by
  intro l p e s m args below meth c D dT q A H locs lsA hC hl hP hD hS
  exact lv_lushr hC.1 hC.2.1 hd hv (kk l p e s m args below meth c D dT q A H locs lsA hC hl hP hD hS)
theorem mx_lshl {x z : Int64} {y : Int32} (hd : decode J.2.1 k = .ok (.lshl, 1)) (hv : x <<< (y.toInt64 &&& 63) = z)
    (kk : mx_W K T cl J R (k + 1) ls (.long z :: rest) hp Q) : mx_W K T cl J R k ls (.int y :: .long x :: rest) hp Q := by
  intro l p e s m args below meth c D dT q A H locs lsA hC hl hP hD hS
  exact lv_lshl hC.1 hC.2.1 hd hv (kk l p e s m args below meth c D dT q A H locs lsA hC hl hP hD hS)
theorem mx_ineg {x : Int32} (hd : decode J.2.1 k = .ok (.ineg, 1)) 
    (kk : mx_W K T cl J R (k + 1) ls (.int (-x) :: rest) hp Q) : mx_W K T cl J R k ls (.int x :: rest) hp Q := by
  intro l p e s m args below meth c D dT q A H locs lsA hC hl hP hD hS
  exact lv_ineg hC.1 hC.2.1 hd  (kk l p e s m args below meth c D dT q A H locs lsA hC hl hP hD hS)
theorem mx_ishl {x y : Int32} (hd : decode J.2.1 k = .ok (.ishl, 1)) 
    (kk : mx_W K T cl J R (k + 1) ls (.int (x <<< (y &&& 31)) :: rest) hp Q) : mx_W K T cl J R k ls (.int y :: .int x :: rest) hp Q := by
  intro l p e s m args below meth c D dT q A H locs lsA hC hl hP hD hS
  exact lv_ishl hC.1 hC.2.1 hd  (kk l p e s m args below meth c D dT q A H locs lsA hC hl hP hD hS)
theorem mx_ishr {x y : Int32} (hd : decode J.2.1 k = .ok (.ishr, 1)) 
    (kk : mx_W K T cl J R (k + 1) ls (.int (x >>> (y &&& 31)) :: rest) hp Q) : mx_W K T cl J R k ls (.int y :: .int x :: rest) hp Q := by
  intro l p e s m args below meth c D dT q A H locs lsA hC hl hP hD hS
  exact lv_ishr hC.1 hC.2.1 hd  (kk l p e s m args below meth c D dT q A H locs lsA hC hl hP hD hS)
theorem mx_idiv {x y : Int32} (hd : decode J.2.1 k = .ok (.idiv, 1)) (hne : ¬ y = 0)
    (kk : mx_W K T cl J R (k + 1) ls (.int (x / y) :: rest) hp Q) : mx_W K T cl J R k ls (.int y :: .int x :: rest) hp Q := by
  intro l p e s m args below meth c D dT q A H locs lsA hC hl hP hD hS
  exact lv_idiv hC.1 hC.2.1 hd hne (kk l p e s m args below meth c D dT q A H locs lsA hC hl hP hD hS)
theorem mx_dup {v : Value} (hd : decode J.2.1 k = .ok (.dup, 1)) (hv : v.category = 1)
    (kk : mx_W K T cl J R (k + 1) ls (v :: v :: rest) hp Q) : mx_W K T cl J R k ls (v :: rest) hp Q := by
  intro l p e s m args below meth c D dT q A H locs lsA hC hl hP hD hS
  exact lv_dup hC.1 hC.2.1 hd ((mx_v_cat q v).trans hv) (kk l p e s m args below meth c D dT q A H locs lsA hC hl hP hD hS)
theorem mx_pop {v : Value} (hd : decode J.2.1 k = .ok (.pop, 1)) (hv : v.category = 1)
    (kk : mx_W K T cl J R (k + 1) ls rest hp Q) : mx_W K T cl J R k ls (v :: rest) hp Q := by
  intro l p e s m args below meth c D dT q A H locs lsA hC hl hP hD hS
  exact lv_pop hC.1 hC.2.1 hd ((mx_v_cat q v).trans hv) (kk l p e s m args below meth c D dT q A H locs lsA hC hl hP hD hS)
theorem mx_dup_x1 {v u : Value} (hd : decode J.2.1 k = .ok (.dup_x1, 1)) (hv : v.category = 1) (hu : u.category = 1)
    (kk : mx_W K T cl J R (k + 1) ls (v :: u :: v :: rest) hp Q) : mx_W K T cl J R k ls (v :: u :: rest) hp Q := by
  intro l p e s m args below meth c D dT q A H locs lsA hC hl hP hD hS
  exact lv_dup_x1 hC.1 hC.2.1 hd ((mx_v_cat q v).trans hv) ((mx_v_cat q u).trans hu) (kk l p e s m args below meth c D dT q A H locs lsA hC hl hP hD hS)
theorem mx_dup_x2 {v u z : Value} (hd : decode J.2.1 k = .ok (.dup_x2, 1)) (hv : v.category = 1) (hu : u.category = 1) (hz : z.category = 1)
    (kk : mx_W K T cl J R (k + 1) ls (v :: u :: z :: v :: rest) hp Q) : mx_W K T cl J R k ls (v :: u :: z :: rest) hp Q := by
  intro l p e s m args below meth c D dT q A H locs lsA hC hl hP hD hS
  exact lv_dup_x2 hC.1 hC.2.1 hd ((mx_v_cat q v).trans hv) ((mx_v_cat q u).trans hu) ((mx_v_cat q z).trans hz) (kk l p e s m args below meth c D dT q A H locs lsA hC hl hP hD hS)
theorem mx_dup2 {v u : Value} (hd : decode J.2.1 k = .ok (.dup2, 1)) (hv : v.category = 1) (hu : u.category = 1)
    (kk : mx_W K T cl J R (k + 1) ls (v :: u :: v :: u :: rest) hp Q) : mx_W K T cl J R k ls (v :: u :: rest) hp Q := by
  intro l p e s m args below meth c D dT q A H locs lsA hC hl hP hD hS
  exact lv_dup2_11 hC.1 hC.2.1 hd ((mx_v_cat q v).trans hv) ((mx_v_cat q u).trans hu) (kk l p e s m args below meth c D dT q A H locs lsA hC hl hP hD hS)
theorem mx_if_eq {x : Int32} {off : Int} (tgt : Nat) (hd : decode J.2.1 k = .ok (.ifCond .eq off, 3)) (ht : (k : Int) + off = (tgt : Int))
    (kt : x = 0 → mx_W K T cl J R tgt ls rest hp Q) (kf : ¬ x = 0 → mx_W K T cl J R (k + 3) ls rest hp Q) : mx_W K T cl J R k ls (.int x :: rest) hp Q := by
  intro l p e s m args below meth c D dT q A H locs lsA hC hl hP hD hS
  exact lv_if_eq hC.1 hC.2.1 hd ht (fun h9 => kt h9 l p e s m args below meth c D dT q A H locs lsA hC hl hP hD hS) (fun h9 => kf h9 l p e s m args below meth c D dT q A H locs lsA hC hl hP hD hS)
theorem mx_icmp_eq {x y : Int32} {off : Int} (tgt : Nat) (hd : decode J.2.1 k = .ok (.if_icmp .eq off, 3)) (ht : (k : Int) + off = (tgt : Int))
    (kt : x = y → mx_W K T cl J R tgt ls rest hp Q) (kf : ¬ x = y → mx_W K T cl J R (k + 3) ls rest hp Q) : mx_W K T cl J R k ls (.int y :: .int x :: rest) hp Q := by
  intro l p e s m args below meth c D dT q A H locs lsA hC hl hP hD hS
  exact lv_icmp_eq hC.1 hC.2.1 hd ht (fun h9 => kt h9 l p e s m args below meth c D dT q A H locs lsA hC hl hP hD hS) (fun h9 => kf h9 l p e s m args below meth c D dT q A H locs lsA hC hl hP hD hS)
theorem mx_if_ne {x : Int32} {off : Int} (tgt : Nat) (hd : decode J.2.1 k = .ok (.ifCond .ne off, 3)) (ht : (k : Int) + off = (tgt : Int))
    (kt : ¬ x = 0 → mx_W K T cl J R tgt ls rest hp Q) (kf : x = 0 → mx_W K T cl J R (k + 3) ls rest hp Q) : mx_W K T cl J R k ls (.int x :: rest) hp Q := by
  intro l p e s m args below meth c D dT q A H locs lsA hC hl hP hD hS
  exact lv_if_ne hC.1 hC.2.1 hd ht (fun h9 => kt h9 l p e s m args below meth c D dT q A H locs lsA hC hl hP hD hS) (fun h9 => kf h9 l p e s m args below meth c D dT q A H locs lsA hC hl hP hD hS)
theorem mx_icmp_ne {x y : Int32} {off : Int} (tgt : Nat) (hd : decode J.2.1 k = .ok (.if_icmp .ne off, 3)) (ht : (k : Int) + off = (tgt : Int))
    (kt : ¬ x = y → mx_W K T cl J R tgt ls rest hp Q) (kf : x = y → mx_W K T cl J R (k + 3) ls rest hp Q) : mx_W K T cl J R k ls (.int y :: .int x :: rest) hp Q := by
  intro l p e s m args below meth c D dT q A H locs lsA hC hl hP hD hS
  exact lv_icmp_ne hC.1 hC.2.1 hd ht (fun h9 => kt h9 l p e s m args below meth c D dT q A H locs lsA hC hl hP hD hS) (fun h9 => kf h9 l p e s m args below meth c D dT q A H locs lsA hC hl hP hD hS)
theorem mx_if_lt {x : Int32} {off : Int} (tgt : Nat) (hd : decode J.2.1 k = .ok (.ifCond .lt off, 3)) (ht : (k : Int) + off = (tgt : Int))
    (kt : x < 0 → mx_W K T cl J R tgt ls rest hp Q) (kf : ¬ x < 0 → mx_W K T cl J R (k + 3) ls rest hp Q) : mx_W K T cl J R k ls (.int x :: rest) hp Q := by
  intro l p e s m args below meth c D dT q A H locs lsA hC hl hP hD hS
  exact lv_if_lt hC.1 hC.2.1 hd ht (fun h9 => kt h9 l p e s m args below meth c D dT q A H locs lsA hC hl hP hD hS) (fun h9 => kf h9 l p e s m args below meth c D dT q A H locs lsA hC hl hP hD hS)
theorem mx_icmp_lt {x y : Int32} {off : Int} (tgt : Nat) (hd : decode J.2.1 k = .ok (.if_icmp .lt off, 3)) (ht : (k : Int) + off = (tgt : Int))
    (kt : x < y → mx_W K T cl J R tgt ls rest hp Q) (kf : ¬ x < y → mx_W K T cl J R (k + 3) ls rest hp Q) : mx_W K T cl J R k ls (.int y :: .int x :: rest) hp Q := by
  intro l p e s m args below meth c D dT q A H locs lsA hC hl hP hD hS
  exact lv_icmp_lt hC.1 hC.2.1 hd ht (fun h9 => kt h9 l p e s m args below meth c D dT q A H locs lsA hC hl hP hD hS) (fun h9 => kf h9 l p e s m args below meth c D dT q A H locs lsA hC hl hP hD hS)
theorem mx_if_ge {x : Int32} {off : Int} (tgt : Nat) (hd : decode J.2.1 k = .ok (.ifCond .ge off, 3)) (ht : (k : Int) + off = (tgt : Int))
    (kt : 0 ≤ x → mx_W K T cl J R tgt ls rest hp Q) (kf : ¬ 0 ≤ x → mx_W K T cl J R (k + 3) ls rest hp Q) : mx_W K T cl J R k ls (.int x :: rest) hp Q := by
  intro l p e s m args below meth c D dT q A H locs lsA hC hl hP hD hS
  exact lv_if_ge hC.1 hC.2.1 hd ht (fun h9 => kt h9 l p e s m args below meth c D dT q A H locs lsA hC hl hP hD hS) (fun h9 => kf h9 l p e s m args below meth c D dT q A H locs lsA hC hl hP hD hS)
theorem mx_icmp_ge {x y : Int32} {off : Int} (tgt : Nat) (hd : decode J.2.1 k = .ok (.if_icmp .ge off, 3)) (ht : (k : Int) + off = (tgt : Int))
    (kt : y ≤ x → mx_W K T cl J R tgt ls rest hp Q) (kf : ¬ y ≤ x → mx_W K T cl J R (k + 3) ls rest hp Q) : mx_W K T cl J R k ls (.int y :: .int x :: rest) hp Q := by
  intro l p e s m args below meth c D dT q A H locs lsA hC hl hP hD hS
  exact lv_icmp_ge hC.1 hC.2.1 hd ht (fun h9 => kt h9 l p e s m args below meth c D dT q A H locs lsA hC hl hP hD hS) (fun h9 => kf h9 l p e s m args below meth c D dT q A H locs lsA hC hl hP hD hS)
theorem mx_if_gt {x : Int32} {off : Int} (tgt : Nat) (hd : decode J.2.1 k = .ok (.ifCond .gt off, 3)) (ht : (k : Int) + off = (tgt : Int))
    (kt : 0 < x → mx_W K T cl J R tgt ls rest hp Q) (kf : ¬ 0 < x → mx_W K T cl J R (k + 3) ls rest hp Q) : mx_W K T cl J R k ls (.int x :: rest) hp Q := by
  intro l p e s m args below meth c D dT q A H locs lsA hC hl hP hD hS
  exact lv_if_gt hC.1 hC.2.1 hd ht (fun h9 => kt h9 l p e s m args below meth c D dT q A H locs lsA hC hl hP hD hS) (fun h9 => kf h9 l p e s m args below meth c D dT q A H locs lsA hC hl hP hD hS)
theorem mx_icmp_gt {x y : Int32} {off : Int} (tgt : Nat) (hd : decode J.2.1 k = .ok (.if_icmp .gt off, 3)) (ht : (k : Int) + off = (tgt : Int))
    (kt : y < x → mx_W K T cl J R tgt ls rest hp Q) (kf : ¬ y < x → mx_W K T cl J R (k + 3) ls rest hp Q) : mx_W K T cl J R k ls (.int y :: .int x :: rest) hp Q := by
  intro l p e s m args below meth c D dT q A H locs lsA hC hl hP hD hS
  exact lv_icmp_gt hC.1 hC.2.1 hd ht (fun h9 => kt h9 l p e s m args below meth c D dT q A H locs lsA hC hl hP hD hS) (fun h9 => kf h9 l p e s m args below meth c D dT q A H locs lsA hC hl hP hD hS)
theorem mx_if_le {x : Int32} {off : Int} (tgt : Nat) (hd : decode J.2.1 k = .ok (.ifCond .le off, 3)) (ht : (k : Int) + off = (tgt : Int))
    (kt : x ≤ 0 → mx_W K T cl J R tgt ls rest hp Q) (kf : ¬ x ≤ 0 → mx_W K T cl J R (k + 3) ls rest hp Q) : mx_W K T cl J R k ls (.int x :: rest) hp Q := by
  intro l p e s m args below meth c D dT q A H locs lsA hC hl hP hD hS
  exact lv_if_le hC.1 hC.2.1 hd ht (fun h9 => kt h9 l p e s m args below meth c D dT q A H locs lsA hC hl hP hD hS) (fun h9 => kf h9 l p e s m args below meth c D dT q A H locs lsA hC hl hP hD hS)
theorem mx_icmp_le {x y : Int32} {off : Int} (tgt : Nat) (hd : decode J.2.1 k = .ok (.if_icmp .le off, 3)) (ht : (k : Int) + off = (tgt : Int))
    (kt : x ≤ y → mx_W K T cl J R tgt ls rest hp Q) (kf : ¬ x ≤ y → mx_W K T cl J R (k + 3) ls rest hp Q) : mx_W K T cl J R k ls (.int y :: .int x :: rest) hp Q := by
  intro l p e s m args below meth c D dT q A H locs lsA hC hl hP hD hS
  exact lv_icmp_le hC.1 hC.2.1 hd ht (fun h9 => kt h9 l p e s m args below meth c D dT q A H locs lsA hC hl hP hD hS) (fun h9 => kf h9 l p e s m args below meth c D dT q A H locs lsA hC hl hP hD hS)
theorem mx_goto {off : Int} (tgt : Nat) (hd : decode J.2.1 k = .ok (.goto off, 3)) (ht : (k : Int) + off = (tgt : Int))
    (kk : mx_W K T cl J R tgt ls rest hp Q) : mx_W K T cl J R k ls rest hp Q := by
  intro l p e s m args below meth c D dT q A H locs lsA hC hl hP hD hS
  exact lv_goto hC.1 hC.2.1 hd ht (kk l p e s m args below meth c D dT q A H locs lsA hC hl hP hD hS)
theorem mx_tableIn {dflt lo hi : Int} {offs : Array Int} {len : Nat} {x : Int32} {off : Int} (tgt : Nat) (hd : decode J.2.1 k = .ok (.tableswitch dflt lo hi offs, len)) (h1 : ¬ x.toInt < lo) (h2 : ¬ hi < x.toInt) (ho : offs[(x.toInt - lo).toNat]? = some off) (ht : (k : Int) + off = (tgt : Int))
    (kk : mx_W K T cl J R tgt ls rest hp Q) : mx_W K T cl J R k ls (.int x :: rest) hp Q := by
  intro l p e s m args below meth c D dT q A H locs lsA hC hl hP hD hS
  exact lv_tableIn hC.1 hC.2.1 hd h1 h2 ho ht (kk l p e s m args below meth c D dT q A H locs lsA hC hl hP hD hS)
theorem mx_tableOut {dflt lo hi : Int} {offs : Array Int} {len : Nat} {x : Int32} (tgt : Nat) (hd : decode J.2.1 k = .ok (.tableswitch dflt lo hi offs, len)) (h : x.toInt < lo ∨ hi < x.toInt) (ht : (k : Int) + dflt = (tgt : Int))
    (kk : mx_W K T cl J R tgt ls rest hp Q) : mx_W K T cl J R k ls (.int x :: rest) hp Q := by
  intro l p e s m args below meth c D dT q A H locs lsA hC hl hP hD hS
  exact lv_tableOut hC.1 hC.2.1 hd h ht (kk l p e s m args below meth c D dT q A H locs lsA hC hl hP hD hS)
theorem mx_ldc {idx : Nat} {x : Int32} (hd : decode J.2.1 k = .ok (.ldc idx, 2)) (hc : Jvm.Cond.constant J.1.cls idx x ∈ T)
    (kk : mx_W K T cl J R (k + 2) ls (.int x :: rest) hp Q) : mx_W K T cl J R k ls rest hp Q := by
  intro l p e s m args below meth c D dT q A H locs lsA hC hl hP hD hS
  exact lv_ldc hC.1 hC.2.1 hC.2.2.2.2.1 (hC.2.2.2.2.2.1 _ hc) hd (kk l p e s m args below meth c D dT q A H locs lsA hC hl hP hD hS)
theorem mx_ldc2 {idx : Nat} {x : Int64} (hd : decode J.2.1 k = .ok (.ldc2_w idx, 3)) (hc : Jvm.Cond.constantLong J.1.cls idx x ∈ T)
    (kk : mx_W K T cl J R (k + 3) ls (.long x :: rest) hp Q) : mx_W K T cl J R k ls rest hp Q := by
  intro l p e s m args below meth c D dT q A H locs lsA hC hl hP hD hS
  exact lv_ldc2 hC.1 hC.2.1 hC.2.2.2.2.1 (hC.2.2.2.2.2.1 _ hc) hd (kk l p e s m args below meth c D dT q A H locs lsA hC hl hP hD hS)
theorem mx_iald {b n : Nat} {f : Nat → Int32} {i : Int32} (hd : decode J.2.1 k = .ok (.iaload, 1)) (hb : hp[b]? = some (.inl (0, n, .inl f))) (hin : vp_in i n)
    (kk : mx_W K T cl J R (k + 1) ls (.int (f i.toNatClampNeg) :: rest) hp Q) : mx_W K T cl J R k ls (.int i :: .ref b :: rest) hp Q := by
  intro l p e s m args below meth c D dT q A H locs lsA hC hl hP hD hS
  exact va_iald hC.1 hC.2.1 hC.2.2.2.2.2.2.1 hP b 0 (mx_w_get hb) rfl hin hd (kk l p e s m args below meth c D dT q A H locs lsA hC hl hP hD hS)
theorem mx_zald {b n : Nat} {f : Nat → Int32} {i : Int32} (hd : decode J.2.1 k = .ok (.baload, 1)) (hb : hp[b]? = some (.inl (2, n, .inl f))) (hin : vp_in i n)
    (kk : mx_W K T cl J R (k + 1) ls (.int (f i.toNatClampNeg) :: rest) hp Q) : mx_W K T cl J R k ls (.int i :: .ref b :: rest) hp Q := by
  intro l p e s m args below meth c D dT q A H locs lsA hC hl hP hD hS
  exact va_zald hC.1 hC.2.1 hC.2.2.2.2.2.2.1 hP b 2 (mx_w_get hb) rfl hin hd (kk l p e s m args below meth c D dT q A H locs lsA hC hl hP hD hS)
theorem mx_lald {b n : Nat} {f : Nat → Int64} {i : Int32} (hd : decode J.2.1 k = .ok (.laload, 1)) (hb : hp[b]? = some (.inl (1, n, .inr (.inl f)))) (hin : vp_in i n)
    (kk : mx_W K T cl J R (k + 1) ls (.long (f i.toNatClampNeg) :: rest) hp Q) : mx_W K T cl J R k ls (.int i :: .ref b :: rest) hp Q := by
  intro l p e s m args below meth c D dT q A H locs lsA hC hl hP hD hS
  exact va_lald hC.1 hC.2.1 hC.2.2.2.2.2.2.1 hP b 1 (mx_w_get hb) rfl hin hd (kk l p e s m args below meth c D dT q A H locs lsA hC hl hP hD hS)
theorem mx_iast {b n : Nat} {f : Nat → Int32} {i : Int32} {x : Int32} (hd : decode J.2.1 k = .ok (.iastore, 1)) (hb : hp[b]? = some (.inl (0, n, .inl f))) (hin : vp_in i n)
    (kk : mx_W K T cl J R (k + 1) ls rest (hp.set b (.inl (0, n, .inl (upd f i.toNatClampNeg x)))) Q) : mx_W K T cl J R k ls (.int x :: .int i :: .ref b :: rest) hp Q := by
  intro l p e s m args below meth c D dT q A H locs lsA hC hl hP hD hS
  refine va_iast hC.1 hC.2.1 hC.2.2.2.2.2.2.1 hP hD hS b 0 (mx_w_get hb) rfl hin hd (fun H1 locs1 hP1 hD1 hS1 => ?_)
  have e1 := mx_w_set q dT hp b (.inl (0, n, .inl (upd f i.toNatClampNeg x)))
  exact kk l p e s m args below meth c D dT q A H1 locs1 lsA hC hl (e1 ▸ hP1) (e1 ▸ hD1) hS1
theorem mx_zast {b n : Nat} {f : Nat → Int32} {i : Int32} {x : Int32} (hd : decode J.2.1 k = .ok (.bastore, 1)) (hb : hp[b]? = some (.inl (2, n, .inl f))) (hin : vp_in i n)
    (kk : mx_W K T cl J R (k + 1) ls rest (hp.set b (.inl (2, n, .inl (upd f i.toNatClampNeg (vp_nar .boolean x))))) Q) : mx_W K T cl J R k ls (.int x :: .int i :: .ref b :: rest) hp Q := by
  intro l p e s m args below meth c D dT q A H locs lsA hC hl hP hD hS
  refine va_zast hC.1 hC.2.1 hC.2.2.2.2.2.2.1 hP hD hS b 2 (mx_w_get hb) rfl hin hd (fun H1 locs1 hP1 hD1 hS1 => ?_)
  have e1 := mx_w_set q dT hp b (.inl (2, n, .inl (upd f i.toNatClampNeg (vp_nar .boolean x))))
  exact kk l p e s m args below meth c D dT q A H1 locs1 lsA hC hl (e1 ▸ hP1) (e1 ▸ hD1) hS1
theorem mx_last {b n : Nat} {f : Nat → Int64} {i : Int32} {x : Int64} (hd : decode J.2.1 k = .ok (.lastore, 1)) (hb : hp[b]? = some (.inl (1, n, .inr (.inl f)))) (hin : vp_in i n)
    (kk : mx_W K T cl J R (k + 1) ls rest (hp.set b (.inl (1, n, .inr (.inl (vp_updL f i.toNatClampNeg x))))) Q) : mx_W K T cl J R k ls (.long x :: .int i :: .ref b :: rest) hp Q := by
  intro l p e s m args below meth c D dT q A H locs lsA hC hl hP hD hS
  refine va_last hC.1 hC.2.1 hC.2.2.2.2.2.2.1 hP hD hS b 1 (mx_w_get hb) rfl hin hd (fun H1 locs1 hP1 hD1 hS1 => ?_)
  have e1 := mx_w_set q dT hp b (.inl (1, n, .inr (.inl (vp_updL f i.toNatClampNeg x))))
  exact kk l p e s m args below meth c D dT q A H1 locs1 lsA hC hl (e1 ▸ hP1) (e1 ▸ hD1) hS1
theorem mx_aald {b n y : Nat} {f : Nat → Option Nat} {i : Int32} (hd : decode J.2.1 k = .ok (.aaload, 1)) (hb : hp[b]? = some (.inl (3, n, .inr (.inr (.inr (.inr f)))))) (hin : vp_in i n) (hy : f i.toNatClampNeg = some y)
    (kk : mx_W K T cl J R (k + 1) ls (.ref y :: rest) hp Q) : mx_W K T cl J R k ls (.int i :: .ref b :: rest) hp Q := by
  intro l p e s m args below meth c D dT q A H locs lsA hC hl hP hD hS
  have hlt : i.toNatClampNeg < n := Nat.not_le.mp fun h => hin (Or.inr h)
  have hcell := hP b _ (mx_w_get hb)
  exact W.aald (v := .ref (q y)) (ty := .array .int) hC.1 hC.2.1 hcell ((hC.2.2.2.2.2.2.1.2 3 _ rfl).1 n (fun j => va_rf ((f j).map q))) rfl (fun h => by cases h) (by show ¬ (i < 0 ∨ (arrV (dT 3) n (fun j => va_rf ((f j).map q))).slots.size ≤ _); rw [arrV_size]; exact hin) (by show (arrV (dT 3) n (fun j => va_rf ((f j).map q))).slots[i.toNatClampNeg]? = _; rw [arrV_read _ _ hlt, hy]; rfl) rfl rfl hd (kk l p e s m args below meth c D dT q A H locs lsA hC hl hP hD hS)
theorem mx_alen {b t : Nat} {x : vp_A} {ty : FieldType} {v : Int32} (hd : decode J.2.1 k = .ok (.arraylength, 1)) (hb : hp[b]? = some (.inl (t, x))) (ht : ∀ dT, (mx_tys dT)[t]? = some (dT t, ty)) (hv : Int32.ofNat x.1 = v)
    (kk : mx_W K T cl J R (k + 1) ls (.int v :: rest) hp Q) : mx_W K T cl J R k ls (.ref b :: rest) hp Q := by
  intro l p e s m args below meth c D dT q A H locs lsA hC hl hP hD hS
  have hx : (mx_a q x).1 = x.1 := by obtain ⟨n, a | a | a | a | a⟩ := x <;> rfl
  exact va_alen hC.1 hC.2.1 hC.2.2.2.2.2.2.1 hP b t (mx_w_get hb) (ht dT) (by rw [hx]; exact hv) hd (kk l p e s m args below meth c D dT q A H locs lsA hC hl hP hD hS)
def mx_fl (T : List Cond) (own : String) (idx : Nat) (F : u_T) (fi : Nat) : Prop := Cond.fieldLink own idx (F fi).1 (F fi).2.1 (F fi).2.2.1 ∈ T ∨ ∃ host, Cond.fieldLinkNest own idx (F fi).1 (F fi).2.1 (F fi).2.2.1 host ∈ T
def mx_fg (T : List Cond) (cl : List vw_C) (own : String) (idx ci fi : Nat) : Prop := ∃ (C : String) (F : u_T) (N : Nat), cl[ci]? = some (C, F, N) ∧ fi < N ∧ (∀ w ∈ u_ws C F N, w ∈ T) ∧ mx_fl T own idx F fi
theorem mx_get {idx b : Nat} {fs : List Value} {v : Value} (ci fi : Nat) (hd : decode J.2.1 k = .ok (.getfield idx, 3)) (hf : mx_fg T cl J.1.cls idx ci fi) (hb : hp[b]? = some (.inr (ci, fs))) (hv : fs[fi]? = some v)
    (kk : mx_W K T cl J R (k + 3) ls (v :: rest) hp Q) : mx_W K T cl J R k ls (.ref b :: rest) hp Q := by
  intro l p e s m args below meth c D dT q A H locs lsA hC hl hP hD hS
  obtain ⟨C, F, N, h1, h2, h3, h4⟩ := hf
  have hv' : (fs.map (mx_v q))[fi]? = some (mx_v q v) := by rw [List.getElem?_map, hv]; rfl
  rcases h4 with h4 | ⟨host, h4⟩
  · exact va_get hC.1 hC.2.1 hC.2.2.2.2.2.1 h3 hC.2.2.2.2.1 hC.2.2.2.2.2.2.1 hP b (mx_w_get hb) h1 fi h2 (hC.2.2.2.2.2.1 _ h4) (fun _ h => h) hv' hd (kk l p e s m args below meth c D dT q A H locs lsA hC hl hP hD hS)
  · exact va_getN hC.1 hC.2.1 hC.2.2.2.2.2.1 h3 hC.2.2.2.2.1 hC.2.2.2.2.2.2.1 hP b (mx_w_get hb) h1 fi h2 (hC.2.2.2.2.2.1 _ h4) (fun _ h => h) hv' hd (kk l p e s m args below meth c D dT q A H locs lsA hC hl hP hD hS)
def mx_fp (T : List Cond) (cl : List vw_C) (own : String) (idx ci fi : Nat) (ty : FieldType) : Prop := ∃ (C : String) (F : u_T) (N : Nat) (ty0 : Nat → FieldType), cl[ci]? = some (C, F, N) ∧ fi < N ∧ (∀ w ∈ u_ws C F N, w ∈ T) ∧ mx_fl T own idx F fi ∧
  (∀ k, k < N → parseFieldDescriptor (F k).2.2.1 = some (ty0 k)) ∧ (∀ a, a < N → ∀ b, b < N → a ≠ b → (F a).2.1 ≠ (F b).2.1) ∧ (F fi).2.2.2 = false ∧ parseFieldDescriptor (F fi).2.2.1 = some ty
theorem mx_put {idx b : Nat} {fs : List Value} {x : Int32} (ci fi : Nat) (ty : FieldType) (hd : decode J.2.1 k = .ok (.putfield idx, 3)) (hf : mx_fp T cl J.1.cls idx ci fi ty) (hb : hp[b]? = some (.inr (ci, fs))) (hl : fi < fs.length) (hn : narrow ty (.int x) = .int x) (hfit : fits ty (.int x) = true)
    (kk : mx_W K T cl J R (k + 3) ls rest (hp.set b (.inr (ci, fs.set fi (.int x)))) Q) : mx_W K T cl J R k ls (.int x :: .ref b :: rest) hp Q := by
  intro l p e s m args below meth c D dT q A H locs lsA hC hls hP hD hS
  obtain ⟨C, F, N, ty0, h1, h2, h3, h4, h5, h6, h7, h8⟩ := hf
  have e1 := mx_w_set q dT hp b (.inr (ci, fs.set fi (.int x)))
  have e2 : mx_e q dT (.inr (ci, fs.set fi (.int x))) = .inr (ci, (fs.map (mx_v q)).set fi (.int x)) := by
    show Sum.inr (ci, (fs.set fi (.int x)).map (mx_v q)) = _
    rw [List.map_set]
    rfl
  rw [e2] at e1
  rcases h4 with h4 | ⟨host, h4⟩
  · exact va_put hC.1 hC.2.1 hC.2.2.2.2.2.1 h3 ty0 h5 h6 hC.2.2.2.2.1 hC.2.2.2.2.2.2.1 hP hD hS b (mx_w_get hb) h1 fi h2 (hC.2.2.2.2.2.1 _ h4) (fun _ h => h) h7 h8 hn hfit (by simpa using hl) hd (fun H1 locs1 hP1 hD1 hS1 => kk l p e s m args below meth c D dT q A H1 locs1 lsA hC hls (e1 ▸ hP1) (e1 ▸ hD1) hS1)
  · exact va_putN hC.1 hC.2.1 hC.2.2.2.2.2.1 h3 ty0 h5 h6 hC.2.2.2.2.1 hC.2.2.2.2.2.2.1 hP hD hS b (mx_w_get hb) h1 fi h2 (hC.2.2.2.2.2.1 _ h4) (fun _ h => h) h7 h8 hn hfit (by simpa using hl) hd (fun H1 locs1 hP1 hD1 hS1 => kk l p e s m args below meth c D dT q A H1 locs1 lsA hC hls (e1 ▸ hP1) (e1 ▸ hD1) hS1)
theorem mx_max {idx : Nat} {x y : Int32} (hd : decode J.2.1 k = .ok (.invokestatic idx, 3)) (h1 : Cond.methodLink J.1.cls idx Lib.Math.max.name ∈ T) (h2 : Cond.static Lib.Math.max.name ∈ T) (h3 : Cond.initialized "java/lang/Math" ∈ T) (h4 : Cond.code Lib.Math.max.name Lib.Math.max.code 2 (some .int) ∈ T) (hfr : 1 ≤ R.frames) (hlo : (rest.map fun v => v.category).sum + 13 ≤ R.locals)
    (kk : mx_W K T cl J R (k + 3) ls (.int (if x < y then y else x) :: rest) hp Q) : mx_W K T cl J R k ls (.int y :: .int x :: rest) hp Q := by
  intro l p e s m args below meth c D dT q A H locs lsA hC hl hP hD hS
  have hw := hC.2.2.2.2.2.1
  exact va_mmax hC.1 hC.2.1 (hC.2.2.2.1.trans hl.1.symm) hC.2.2.2.2.1 (hw _ h1) (hw _ h2) (hw _ h3) (hw _ h4) hfr (by rw [List.map_map]; simpa [Function.comp_def, mx_v_cat] using hlo) (Nat.zero_le _) (Nat.zero_le _) hd (kk l p e s m args below meth c D dT q A H locs lsA hC hl hP hD hS)
theorem mx_min {idx : Nat} {x y : Int32} (hd : decode J.2.1 k = .ok (.invokestatic idx, 3)) (h1 : Cond.methodLink J.1.cls idx Lib.Math.min.name ∈ T) (h2 : Cond.static Lib.Math.min.name ∈ T) (h3 : Cond.initialized "java/lang/Math" ∈ T) (h4 : Cond.code Lib.Math.min.name Lib.Math.min.code 2 (some .int) ∈ T) (hfr : 1 ≤ R.frames) (hlo : (rest.map fun v => v.category).sum + 13 ≤ R.locals)
    (kk : mx_W K T cl J R (k + 3) ls (.int (if y < x then y else x) :: rest) hp Q) : mx_W K T cl J R k ls (.int y :: .int x :: rest) hp Q := by
  intro l p e s m args below meth c D dT q A H locs lsA hC hl hP hD hS
  have hw := hC.2.2.2.2.2.1
  exact va_mmin hC.1 hC.2.1 (hC.2.2.2.1.trans hl.1.symm) hC.2.2.2.2.1 (hw _ h1) (hw _ h2) (hw _ h3) (hw _ h4) hfr (by rw [List.map_map]; simpa [Function.comp_def, mx_v_cat] using hlo) (Nat.zero_le _) (Nat.zero_le _) hd (kk l p e s m args below meth c D dT q A H locs lsA hC hl hP hD hS)
theorem mx_zero (v : Int32) : narrow .int (.int v) = .int v := rfl
theorem mx_iret {v : Int32} {ty : FieldType} (hd : decode J.2.1 k = .ok (.ireturn, 1)) (hr : J.2.2.2 = some ty) (hn : narrow ty (.int v) = .int v) (hQ : Q (.inl (some (.int v))) hp) : mx_W K T cl J R k ls [.int v] hp Q := by
  intro l p e s m args below meth c D dT q A H locs lsA hC hl hP hD hS
  have hlocks : meth.locks = false := hC.2.2.2.2.2.2.2.1
  refine mx_Wmono ?_ (W.zret (Qc := fun _ _ o t => o = .returned (some (.int v)) ∧ t.heap = H) (free := A) hC.1 hC.2.1 (hC.2.2.1.trans hr) hn (fun t ht _ => ⟨rfl, ht⟩) hS.2.2 hd hlocks)
  intro t ht
  obtain ⟨o, a1, a2, ⟨rfl, hh⟩, L, hF, hL⟩ := ht
  exact ⟨_, .inl (some (.int v)), hp, a1, a2, hQ, by rw [hh]; exact hP, hD, hS.F hh, rfl, L, hF, hL⟩
theorem mx_vret (hd : decode J.2.1 k = .ok (.return_, 1)) (hr : J.2.2.2 = none) (hQ : Q (.inl none) hp) : mx_W K T cl J R k ls [] hp Q := by
  intro l p e s m args below meth c D dT q A H locs lsA hC hl hP hD hS
  have hlocks : meth.locks = false := hC.2.2.2.2.2.2.2.1
  refine mx_Wmono ?_ (W.vret (Qc := fun _ _ o t => o = .returned none ∧ t.heap = H) (free := A) hC.1 hC.2.1 (hC.2.2.1.trans hr) (fun t ht _ => ⟨rfl, ht⟩) hS.2.2 hd hlocks)
  intro t ht
  obtain ⟨o, a1, a2, ⟨rfl, hh⟩, L, hF, hL⟩ := ht
  exact ⟨_, .inl none, hp, a1, a2, hQ, by rw [hh]; exact hP, hD, hS.F hh, rfl, L, hF, hL⟩
end MX
