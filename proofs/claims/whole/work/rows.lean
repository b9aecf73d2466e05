section
/-! The engine: a method's walk over a PICTURE (a list of numbered cells; a reference is a cell's number), every row one instruction; the machine's side conditions stand in mx_C once. -/
abbrev mx_J : Type := MethodName × ByteArray × Nat × Option FieldType
abbrev mx_O : Type := Option Value ⊕ Nat
def mx_v (q : Nat → Nat) : Value → Value
  | .ref k => .ref (q k)
  | .int x => .int x
  | .long x => .long x
  | .float x => .float x
  | .double x => .double x
  | .null => .null
  | .retAddr k => .retAddr k
theorem mx_v_cat (q : Nat → Nat) (v : Value) : (mx_v q v).category = v.category := by cases v <;> rfl
def mx_a (q : Nat → Nat) (a : vp_A) : vp_A := match a with
  | (n, .inl f) => (n, .inl f)
  | (n, .inr (.inl f)) => (n, .inr (.inl f))
  | (n, .inr (.inr (.inl f))) => (n, .inr (.inr (.inl f)))
  | (n, .inr (.inr (.inr (.inl f)))) => (n, .inr (.inr (.inr (.inl f))))
  | (n, .inr (.inr (.inr (.inr f)))) => (n, .inr (.inr (.inr (.inr (fun i => (f i).map q)))))
def mx_e (q : Nat → Nat) (dT : Nat → ClassId) (x : va_E) : va_E := match x with
  | .inl (t, a) => .inl (dT t, mx_a q a)
  | .inr (c, fs) => .inr (c, fs.map (mx_v q))
def mx_w (q : Nat → Nat) (dT : Nat → ClassId) (hp : List va_E) : va_W := hp.mapIdx (fun k x => (q k, mx_e q dT x))
theorem mx_w_get {q : Nat → Nat} {dT : Nat → ClassId} {hp : List va_E} {k : Nat} {x : va_E} (h : hp[k]? = some x) : (mx_w q dT hp)[k]? = some (q k, mx_e q dT x) := by
  simp [mx_w, List.getElem?_mapIdx, h]
theorem mx_w_set (q : Nat → Nat) (dT : Nat → ClassId) (hp : List va_E) (k : Nat) (x : va_E) : (mx_w q dT hp).set k (q k, mx_e q dT x) = mx_w q dT (hp.set k x) := by
  apply List.ext_getElem?
  intro i
  simp only [mx_w, List.getElem?_set, List.getElem?_mapIdx, List.length_mapIdx]
  by_cases h : k = i
  · subst h
    by_cases h2 : k < hp.length <;> simp [h2]
  · simp [h]
def mx_tys (dT : Nat → ClassId) : List (ClassId × FieldType) := [(dT 0, .int), (dT 1, .long), (dT 2, .boolean), (dT 3, .array .int)]
/-- the locals by place; .retAddr 0 stands where nothing is known -/
def mx_l (q : Nat → Nat) (ls : List Value) : List (Nat × Value) := (ls.mapIdx (fun i v => (i, v))).filterMap (fun x => match x.2 with
  | .retAddr _ => none
  | v => some (x.1, mx_v q v))
theorem mx_l_mem {q : Nat → Nat} {ls : List Value} {x : Nat × Value} : x ∈ mx_l q ls ↔ ∃ v, ls[x.1]? = some v ∧ (∀ k, v ≠ .retAddr k) ∧ x.2 = mx_v q v := by
  obtain ⟨i, w⟩ := x
  simp only [mx_l, List.mem_filterMap]
  constructor
  · rintro ⟨⟨j, v⟩, h1, h2⟩
    obtain ⟨n, h3⟩ := List.getElem?_of_mem h1
    rw [List.getElem?_mapIdx] at h3
    cases h4 : ls[n]? with
    | none => rw [h4] at h3; cases h3
    | some u =>
      rw [h4] at h3
      cases h3
      cases v <;> first | (cases h2; done) | (cases h2; exact ⟨_, h4, fun k => by simp, rfl⟩)
  · rintro ⟨v, h1, h2, h3⟩
    refine ⟨(i, v), ?_, ?_⟩
    · refine List.mem_of_getElem? (i := i) ?_
      rw [List.getElem?_mapIdx, h1]
      rfl
    · (try dsimp only at h3)
      subst h3
      cases v <;> first | rfl | exact absurd rfl (h2 _)
theorem mx_has_mono {ls : Array Slot} {n : Nat} {l l' : List (Nat × Value)} (h : lv_has ls n l) (hs : ∀ x ∈ l', x ∈ l) : lv_has ls n l' := ⟨h.1, h.2.1, fun x hx => h.2.2 x (hs x hx)⟩
theorem mx_at {q : Nat → Nat} {ls : List Value} {lsA : Array Slot} {n i : Nat} {v : Value} (h : lv_has lsA n (mx_l q ls)) (hi : ls[i]? = some v) (hv : ∀ k, v ≠ .retAddr k) : lsA[i]? = some (.val (mx_v q v)) := h.2.2 (i, mx_v q v) (mx_l_mem.mpr ⟨v, hi, hv, rfl⟩)
def mx_cat1 (ls : List Value) : Bool := ls.all (fun v => v.category == 1)
theorem mx_st1 {q : Nat → Nat} {ls : List Value} {i : Nat} {v : Value} (hc : mx_cat1 ls = true) : ∀ x ∈ mx_l q (ls.set i v), x ∈ (i, mx_v q v) :: (mx_l q ls).filter (fun z => !(z.1 == i) && !(z.1 + 1 == i && z.2.category == 2)) := by
  intro x hx
  obtain ⟨w, h1, h2, h3⟩ := mx_l_mem.mp hx
  by_cases h : x.1 = i
  · rw [h, List.getElem?_set] at h1
    simp only [if_true] at h1
    by_cases h5 : i < ls.length
    · simp only [h5, if_true] at h1
      cases h1
      obtain ⟨a, b⟩ := x
      dsimp only at h h3
      subst h; subst h3
      exact List.mem_cons_self
    · simp [h5] at h1
  · rw [List.getElem?_set, if_neg (fun e => h e.symm)] at h1
    refine List.mem_cons_of_mem _ (List.mem_filter.mpr ⟨mx_l_mem.mpr ⟨w, h1, h2, h3⟩, ?_⟩)
    have hw : w.category = 1 := by
      have := List.all_eq_true.mp hc w (List.mem_of_getElem? h1)
      simpa using this
    rw [h3, mx_v_cat, hw]
    simp [h]
theorem mx_st2 {q : Nat → Nat} {ls : List Value} {i : Nat} {v : Value} (hc : mx_cat1 ls = true) : ∀ x ∈ mx_l q ((ls.set i v).set (i + 1) (.retAddr 0)), x ∈ (i, mx_v q v) :: (mx_l q ls).filter (fun z => !(z.1 == i) && (!(z.1 == i + 1) && !(z.1 + 1 == i && z.2.category == 2))) := by
  intro x hx
  obtain ⟨w, h1, h2, h3⟩ := mx_l_mem.mp hx
  by_cases h6 : x.1 = i + 1
  · rw [h6, List.getElem?_set] at h1
    simp only [if_true, List.length_set] at h1
    by_cases h5 : i + 1 < ls.length
    · simp only [h5, if_true] at h1
      cases h1
      exact absurd rfl (h2 0)
    · simp [h5] at h1
  · rw [List.getElem?_set, if_neg (fun e => h6 e.symm)] at h1
    by_cases h : x.1 = i
    · rw [h, List.getElem?_set] at h1
      simp only [if_true] at h1
      by_cases h5 : i < ls.length
      · simp only [h5, if_true] at h1
        cases h1
        obtain ⟨a, b⟩ := x
        dsimp only at h h3
        subst h; subst h3
        exact List.mem_cons_self
      · simp [h5] at h1
    · rw [List.getElem?_set, if_neg (fun e => h e.symm)] at h1
      refine List.mem_cons_of_mem _ (List.mem_filter.mpr ⟨mx_l_mem.mpr ⟨w, h1, h2, h3⟩, ?_⟩)
      have hw : w.category = 1 := by
        have := List.all_eq_true.mp hc w (List.mem_of_getElem? h1)
        simpa using this
      rw [h3, mx_v_cat, hw]
      simp [h, h6]
/-- a static field of the library that holds a reference or null -/
def mx_Sf (C n d : String) (s : State) : Prop := ∃ (cf : ClassId) (kf : Class) (fi : Nat) (f : Field) (a : Nat) (cell : Cell) (v : Value), s.fieldFound? C n d = some (cf, kf, fi, f) ∧ f.isStatic = true ∧ kf.statics = some a ∧ s.heap[a]? = some cell ∧ cell.vm.isStatics = true ∧ cell.slots[f.slot]? = some v ∧ (v = .null ∨ ∃ t, v = .ref t)
theorem mx_Sf_moved {C n d : String} {s U : State} (hvm : s.vm.Alike U.vm) (hk : ∀ (a : Nat) (cell : Cell), s.heap[a]? = some cell → cell.vm.isStatics = true → U.heap[a]? = some cell) (h : mx_Sf C n d s) : mx_Sf C n d U := by
  obtain ⟨cf, kf, fi, f, a, cell, v, h1, h2, h3, h4, h5, h6⟩ := h
  obtain ⟨k', hi', he⟩ := State.fieldFound?_setVm hvm h1
  exact ⟨cf, k', fi, f, a, cell, v, hi', h2, by rw [he]; exact h3, hk a cell h4 h5, h5, h6⟩
/-- what a throw needs beside the words: no stack traces, the two statics of Throwable -/
def mx_Z0 (l : Launch) (s : State) : Prop := (∀ e : Env, l.admits e → e.platform.stackTraces = false) ∧ mx_Sf "java/lang/Throwable" "UNASSIGNED_STACK" "[Ljava/lang/StackTraceElement;" s ∧ mx_Sf "java/lang/Throwable" "SUPPRESSED_SENTINEL" "Ljava/util/List;" s
theorem mx_Z0_moved {l : Launch} {s U : State} (hvm : s.vm.Alike U.vm) (hk : ∀ (a : Nat) (cell : Cell), s.heap[a]? = some cell → cell.vm.isStatics = true → U.heap[a]? = some cell) (h : mx_Z0 l s) : mx_Z0 l U := ⟨h.1, mx_Sf_moved hvm hk h.2.1, mx_Sf_moved hvm hk h.2.2⟩
/-- what stays the same through one run of a method -/
def mx_C (T : List Cond) (cl : List vw_C) (J : mx_J) (l : Launch) (p : Program) (s : State) (m : MethodId) (args : Array Value) (meth : Method) (c : Code) (D : va_G) (dT : Nat → ClassId) (A : Nat → Prop) : Prop :=
  p.tables.exec = Jvm.exec ∧ c.code = J.2.1 ∧ meth.sig.returnType = J.2.2.2 ∧ c.maxLocals = J.2.2.1 ∧ s.vm.findClass J.1.cls = some m.cls ∧ (∀ w ∈ T, w.before args s = true) ∧ va_K D cl (mx_tys dT) s ∧ meth.locks = false ∧ (∀ r : Nat, s.heap.size ≤ r → A r) ∧ (∀ r : Nat, A r → ∀ cell : Cell, s.heap[r]? = some cell → cell.vm.isStatics = false) ∧ mx_Z0 l s ∧ c.exceptionTable.isEmpty = true
/-- how a run ends: an answer (nothing new in the heap), or an exception of the kind X (one new cell) -/
def mx_end (q : Nat → Nat) (A : Nat → Prop) (K : Nat → Addr → State → State → Prop) (s : State) (o : Outcome) (r : mx_O) (t : State) : Prop := match r with
  | .inl v => o = .returned (v.map (mx_v q)) ∧ ∃ L, FrameEnd s o t L 0 0 ∧ ∀ x ∈ L, A x.base
  | .inr X => ∃ a, o = .threw a ∧ K X a s t ∧ ∃ L, FramedT s o t L 1 6 ∧ ∀ x ∈ L, A x.base
def mx_Z (K : Nat → Addr → State → State → Prop) (D : va_G) (cl : List vw_C) (dT : Nat → ClassId) (q : Nat → Nat) (A : Nat → Prop) (Q : mx_O → List va_E → Prop) (below : List Frame) (s : State) : State → Prop := fun t =>
  ∃ (o : Outcome) (r : mx_O) (hp' : List va_E), t.status = .running ∧ Ended t below o ∧ Q r hp' ∧ va_P D cl (mx_w q dT hp') t.heap ∧ va_D A (mx_w q dT hp') ∧ va_F A s t ∧ mx_end q A K s o r t
/-- THE JUDGEMENT: from place k of method J, with locals ls, stack st, picture hp, the run comes to an end with Q -/
def mx_W (K : Nat → Addr → State → State → Prop) (T : List Cond) (cl : List vw_C) (J : mx_J) (R : Room) (k : Nat) (ls st : List Value) (hp : List va_E) (Q : mx_O → List va_E → Prop) : Prop :=
  ∀ (l : Launch) (p : Program) (e : Env) (s : State) (m : MethodId) (args : Array Value) (below : List Frame) (meth : Method) (c : Code) (D : va_G) (dT : Nat → ClassId) (q : Nat → Nat) (A : Nat → Prop) (H : Heap) (locs : List Loc) (lsA : Array Slot),
    mx_C T cl J l p s m args meth c D dT A → lv_has lsA J.2.2.1 (mx_l q ls) → va_P D cl (mx_w q dT hp) H → va_D A (mx_w q dT hp) → va_S A s.heap H locs →
    W p l e R s m args below meth c H locs 0 0 (mx_Z K D cl dT q A Q below s) (F0 m k lsA (st.map (mx_v q)))
theorem mx_Wmono {p : Program} {l : Launch} {e : Env} {R : Room} {s : State} {m : MethodId} {args : Array Value} {below : List Frame} {meth : Method} {c : Code} {H : Heap} {locs : List Loc} {cells slots : Nat} {Q Q' : State → Prop} {g : JFrame} (h : ∀ t, Q t → Q' t) (k : W p l e R s m args below meth c H locs cells slots Q g) : W p l e R s m args below meth c H locs cells slots Q' g := fun T hT X => by
  obtain ⟨t, a, b⟩ := k T hT X
  exact ⟨t, a, h t b⟩
section MX
variable {K : Nat → Addr → State → State → Prop} {T : List Cond} {cl : List vw_C} {J : mx_J} {R : Room} {k : Nat} {ls rest : List Value} {hp : List va_E} {Q : mx_O → List va_E → Prop}
theorem mx_post {Q' : mx_O → List va_E → Prop} {st : List Value} (h : ∀ r hp', Q r hp' → Q' r hp') (kk : mx_W K T cl J R k ls st hp Q) : mx_W K T cl J R k ls st hp Q' := by
  intro l p e s m args below meth c D dT q A H locs lsA hC hl hP hD hS
  refine mx_Wmono ?_ (kk l p e s m args below meth c D dT q A H locs lsA hC hl hP hD hS)
  intro t ht
  obtain ⟨o, r, hp', h1, h2, h3, h4⟩ := ht
  exact ⟨o, r, hp', h1, h2, h _ _ h3, h4⟩
theorem mx_eqs {k' : Nat} {ls' st st' : List Value} {hp' : List va_E} (h1 : k = k') (h2 : ls = ls') (h3 : st = st') (h4 : hp = hp') (kk : mx_W K T cl J R k' ls' st' hp' Q) : mx_W K T cl J R k ls st hp Q := by
  subst h1; subst h2; subst h3; subst h4; exact kk
theorem mx_iconst {n : Int} (x : Int32) (hd : decode J.2.1 k = .ok (.iconst n, 1)) (hv : Int32.ofInt n = x)
    (kk : mx_W K T cl J R (k + 1) ls (.int x :: rest) hp Q) : mx_W K T cl J R k ls (rest) hp Q := by
  intro l p e s m args below meth c D dT q A H locs lsA hC hl hP hD hS
  exact lv_iconst hC.1 hC.2.1 hd hv (kk l p e s m args below meth c D dT q A H locs lsA hC hl hP hD hS)
theorem mx_bipush {n : Int} (x : Int32) (hd : decode J.2.1 k = .ok (.bipush n, 2)) (hv : (Int8.ofInt n).toInt32 = x)
    (kk : mx_W K T cl J R (k + 2) ls (.int x :: rest) hp Q) : mx_W K T cl J R k ls (rest) hp Q := by
  intro l p e s m args below meth c D dT q A H locs lsA hC hl hP hD hS
  exact lv_bipush hC.1 hC.2.1 hd hv (kk l p e s m args below meth c D dT q A H locs lsA hC hl hP hD hS)
theorem mx_sipush {n : Int} (x : Int32) (hd : decode J.2.1 k = .ok (.sipush n, 3)) (hv : (Int16.ofInt n).toInt32 = x)
    (kk : mx_W K T cl J R (k + 3) ls (.int x :: rest) hp Q) : mx_W K T cl J R k ls (rest) hp Q := by
  intro l p e s m args below meth c D dT q A H locs lsA hC hl hP hD hS
  exact lv_sipush hC.1 hC.2.1 hd hv (kk l p e s m args below meth c D dT q A H locs lsA hC hl hP hD hS)
theorem mx_lconst {n : Fin 2} (x : Int64) (hd : decode J.2.1 k = .ok (.lconst n, 1)) (hv : Int64.ofNat (n : Nat) = x)
    (kk : mx_W K T cl J R (k + 1) ls (.long x :: rest) hp Q) : mx_W K T cl J R k ls (rest) hp Q := by
  intro l p e s m args below meth c D dT q A H locs lsA hC hl hP hD hS
  exact lv_lconst hC.1 hC.2.1 hd hv (kk l p e s m args below meth c D dT q A H locs lsA hC hl hP hD hS)
theorem mx_iload_n {n : Fin 4} {x : Int32} (hd : decode J.2.1 k = .ok (.iload_n n, 1)) (hi : ls[(n : Nat)]? = some (.int x))
    (kk : mx_W K T cl J R (k + 1) ls (.int x :: rest) hp Q) : mx_W K T cl J R k ls rest hp Q := by
  intro l p e s m args below meth c D dT q A H locs lsA hC hl hP hD hS
  exact lv_iload_n hC.1 hC.2.1 hd rfl (mx_at hl hi (fun _ => by simp)) (kk l p e s m args below meth c D dT q A H locs lsA hC hl hP hD hS)
theorem mx_iload {i : Nat} {x : Int32} (hd : decode J.2.1 k = .ok (.iload i, 2)) (hi : ls[i]? = some (.int x))
    (kk : mx_W K T cl J R (k + 2) ls (.int x :: rest) hp Q) : mx_W K T cl J R k ls rest hp Q := by
  intro l p e s m args below meth c D dT q A H locs lsA hC hl hP hD hS
  exact lv_iload hC.1 hC.2.1 hd (mx_at hl hi (fun _ => by simp)) (kk l p e s m args below meth c D dT q A H locs lsA hC hl hP hD hS)
theorem mx_lload_n {n : Fin 4} {x : Int64} (hd : decode J.2.1 k = .ok (.lload_n n, 1)) (hi : ls[(n : Nat)]? = some (.long x))
    (kk : mx_W K T cl J R (k + 1) ls (.long x :: rest) hp Q) : mx_W K T cl J R k ls rest hp Q := by
  intro l p e s m args below meth c D dT q A H locs lsA hC hl hP hD hS
  exact lv_lload_n hC.1 hC.2.1 hd rfl (mx_at hl hi (fun _ => by simp)) (kk l p e s m args below meth c D dT q A H locs lsA hC hl hP hD hS)
theorem mx_lload {i : Nat} {x : Int64} (hd : decode J.2.1 k = .ok (.lload i, 2)) (hi : ls[i]? = some (.long x))
    (kk : mx_W K T cl J R (k + 2) ls (.long x :: rest) hp Q) : mx_W K T cl J R k ls rest hp Q := by
  intro l p e s m args below meth c D dT q A H locs lsA hC hl hP hD hS
  exact lv_lload hC.1 hC.2.1 hd (mx_at hl hi (fun _ => by simp)) (kk l p e s m args below meth c D dT q A H locs lsA hC hl hP hD hS)
theorem mx_aload_n {n : Fin 4} {x : Nat} (hd : decode J.2.1 k = .ok (.aload_n n, 1)) (hi : ls[(n : Nat)]? = some (.ref x))
    (kk : mx_W K T cl J R (k + 1) ls (.ref x :: rest) hp Q) : mx_W K T cl J R k ls rest hp Q := by
  intro l p e s m args below meth c D dT q A H locs lsA hC hl hP hD hS
  exact lv_aload_n hC.1 hC.2.1 hd rfl (mx_at hl hi (fun _ => by simp)) (kk l p e s m args below meth c D dT q A H locs lsA hC hl hP hD hS)
theorem mx_aload {i : Nat} {x : Nat} (hd : decode J.2.1 k = .ok (.aload i, 2)) (hi : ls[i]? = some (.ref x))
    (kk : mx_W K T cl J R (k + 2) ls (.ref x :: rest) hp Q) : mx_W K T cl J R k ls rest hp Q := by
  intro l p e s m args below meth c D dT q A H locs lsA hC hl hP hD hS
  exact lv_aload hC.1 hC.2.1 hd (mx_at hl hi (fun _ => by simp)) (kk l p e s m args below meth c D dT q A H locs lsA hC hl hP hD hS)
theorem mx_istore_n {n : Fin 4} {x : Int32} (hd : decode J.2.1 k = .ok (.istore_n n, 1)) (hn : (n : Nat) < J.2.2.1) (hc : mx_cat1 ls = true)
    (kk : mx_W K T cl J R (k + 1) (ls.set (n : Nat) (.int x)) rest hp Q) : mx_W K T cl J R k ls (.int x :: rest) hp Q := by
  intro l p e s m args below meth c D dT q A H locs lsA hC hl hP hD hS
  exact lv_istore_n hC.1 hC.2.1 hd rfl hl hn rfl (fun lsB hB => kk l p e s m args below meth c D dT q A H locs lsB hC (mx_has_mono hB (mx_st1 (v := .int x) hc)) hP hD hS)
theorem mx_istore {i : Nat} {x : Int32} (hd : decode J.2.1 k = .ok (.istore i, 2)) (hn : i < J.2.2.1) (hc : mx_cat1 ls = true)
    (kk : mx_W K T cl J R (k + 2) (ls.set i (.int x)) rest hp Q) : mx_W K T cl J R k ls (.int x :: rest) hp Q := by
  intro l p e s m args below meth c D dT q A H locs lsA hC hl hP hD hS
  exact lv_istore hC.1 hC.2.1 hd hl hn rfl (fun lsB hB => kk l p e s m args below meth c D dT q A H locs lsB hC (mx_has_mono hB (mx_st1 (v := .int x) hc)) hP hD hS)
theorem mx_astore_n {n : Fin 4} {x : Nat} (hd : decode J.2.1 k = .ok (.astore_n n, 1)) (hn : (n : Nat) < J.2.2.1) (hc : mx_cat1 ls = true)
    (kk : mx_W K T cl J R (k + 1) (ls.set (n : Nat) (.ref x)) rest hp Q) : mx_W K T cl J R k ls (.ref x :: rest) hp Q := by
  intro l p e s m args below meth c D dT q A H locs lsA hC hl hP hD hS
  exact lv_astore_n hC.1 hC.2.1 hd rfl hl hn rfl (fun lsB hB => kk l p e s m args below meth c D dT q A H locs lsB hC (mx_has_mono hB (mx_st1 (v := .ref x) hc)) hP hD hS)
theorem mx_astore {i : Nat} {x : Nat} (hd : decode J.2.1 k = .ok (.astore i, 2)) (hn : i < J.2.2.1) (hc : mx_cat1 ls = true)
    (kk : mx_W K T cl J R (k + 2) (ls.set i (.ref x)) rest hp Q) : mx_W K T cl J R k ls (.ref x :: rest) hp Q := by
  intro l p e s m args below meth c D dT q A H locs lsA hC hl hP hD hS
  exact lv_astore hC.1 hC.2.1 hd hl hn rfl (fun lsB hB => kk l p e s m args below meth c D dT q A H locs lsB hC (mx_has_mono hB (mx_st1 (v := .ref x) hc)) hP hD hS)
theorem mx_lstore_n {n : Fin 4} {x : Int64} (hd : decode J.2.1 k = .ok (.lstore_n n, 1)) (hn : (n : Nat) + 1 < J.2.2.1) (hc : mx_cat1 ls = true)
    (kk : mx_W K T cl J R (k + 1) ((ls.set (n : Nat) (.long x)).set ((n : Nat) + 1) (.retAddr 0)) rest hp Q) : mx_W K T cl J R k ls (.long x :: rest) hp Q := by
  intro l p e s m args below meth c D dT q A H locs lsA hC hl hP hD hS
  exact lv_lstore_n hC.1 hC.2.1 hd rfl hl hn rfl (fun lsB hB => kk l p e s m args below meth c D dT q A H locs lsB hC (mx_has_mono hB (mx_st2 (v := .long x) hc)) hP hD hS)
theorem mx_lstore {i : Nat} {x : Int64} (hd : decode J.2.1 k = .ok (.lstore i, 2)) (hn : i + 1 < J.2.2.1) (hc : mx_cat1 ls = true)
    (kk : mx_W K T cl J R (k + 2) ((ls.set i (.long x)).set (i + 1) (.retAddr 0)) rest hp Q) : mx_W K T cl J R k ls (.long x :: rest) hp Q := by
  intro l p e s m args below meth c D dT q A H locs lsA hC hl hP hD hS
  exact lv_lstore hC.1 hC.2.1 hd hl hn rfl (fun lsB hB => kk l p e s m args below meth c D dT q A H locs lsB hC (mx_has_mono hB (mx_st2 (v := .long x) hc)) hP hD hS)
theorem mx_iinc {i : Nat} {n : Int} {x y : Int32} (hd : decode J.2.1 k = .ok (.iinc i n, 3)) (hi : ls[i]? = some (.int x)) (hv : x + Int32.ofInt n = y) (hn : i < J.2.2.1) (hc : mx_cat1 ls = true)
    (kk : mx_W K T cl J R (k + 3) (ls.set i (.int y)) rest hp Q) : mx_W K T cl J R k ls rest hp Q := by
  intro l p e s m args below meth c D dT q A H locs lsA hC hl hP hD hS
  obtain ⟨j, hj⟩ := List.getElem?_of_mem (mx_l_mem (q := q).mpr ⟨_, hi, (fun _ => by simp), rfl⟩ : (i, Value.int x) ∈ mx_l q ls)
  exact lv_iinc hC.1 hC.2.1 hd hl hj hv hn rfl (fun lsB hB => kk l p e s m args below meth c D dT q A H locs lsB hC (mx_has_mono hB (mx_st1 (v := .int y) hc)) hP hD hS)
theorem mx_iadd {x y : Int32} (hd : decode J.2.1 k = .ok (.iadd, 1)) 
    (kk : mx_W K T cl J R (k + 1) ls (.int (x + y) :: rest) hp Q) : mx_W K T cl J R k ls (.int y :: .int x :: rest) hp Q := by
  intro l p e s m args below meth c D dT q A H locs lsA hC hl hP hD hS
  exact lv_iadd hC.1 hC.2.1 hd  (kk l p e s m args below meth c D dT q A H locs lsA hC hl hP hD hS)
theorem mx_isub {x y : Int32} (hd : decode J.2.1 k = .ok (.isub, 1)) 
    (kk : mx_W K T cl J R (k + 1) ls (.int (x - y) :: rest) hp Q) : mx_W K T cl J R k ls (.int y :: .int x :: rest) hp Q := by
  intro l p e s m args below meth c D dT q A H locs lsA hC hl hP hD hS
  exact lv_isub hC.1 hC.2.1 hd  (kk l p e s m args below meth c D dT q A H locs lsA hC hl hP hD hS)
theorem mx_imul {x y : Int32} (hd : decode J.2.1 k = .ok (.imul, 1)) 
    (kk : mx_W K T cl J R (k + 1) ls (.int (x * y) :: rest) hp Q) : mx_W K T cl J R k ls (.int y :: .int x :: rest) hp Q := by
  intro l p e s m args below meth c D dT q A H locs lsA hC hl hP hD hS
  exact lv_imul hC.1 hC.2.1 hd  (kk l p e s m args below meth c D dT q A H locs lsA hC hl hP hD hS)
theorem mx_iand {x y : Int32} (hd : decode J.2.1 k = .ok (.iand, 1)) 
    (kk : mx_W K T cl J R (k + 1) ls (.int (x &&& y) :: rest) hp Q) : mx_W K T cl J R k ls (.int y :: .int x :: rest) hp Q := by
  intro l p e s m args below meth c D dT q A H locs lsA hC hl hP hD hS
  exact lv_iand hC.1 hC.2.1 hd  (kk l p e s m args below meth c D dT q A H locs lsA hC hl hP hD hS)
theorem mx_ior {x y : Int32} (hd : decode J.2.1 k = .ok (.ior, 1)) 
    (kk : mx_W K T cl J R (k + 1) ls (.int (x ||| y) :: rest) hp Q) : mx_W K T cl J R k ls (.int y :: .int x :: rest) hp Q := by
  intro l p e s m args below meth c D dT q A H locs lsA hC hl hP hD hS
  exact lv_ior hC.1 hC.2.1 hd  (kk l p e s m args below meth c D dT q A H locs lsA hC hl hP hD hS)
theorem mx_ixor {x y : Int32} (hd : decode J.2.1 k = .ok (.ixor, 1)) 
    (kk : mx_W K T cl J R (k + 1) ls (.int (x ^^^ y) :: rest) hp Q) : mx_W K T cl J R k ls (.int y :: .int x :: rest) hp Q := by
  intro l p e s m args below meth c D dT q A H locs lsA hC hl hP hD hS
  exact lv_ixor hC.1 hC.2.1 hd  (kk l p e s m args below meth c D dT q A H locs lsA hC hl hP hD hS)
theorem mx_ladd {x y : Int64} (hd : decode J.2.1 k = .ok (.ladd, 1)) 
    (kk : mx_W K T cl J R (k + 1) ls (.long (x + y) :: rest) hp Q) : mx_W K T cl J R k ls (.long y :: .long x :: rest) hp Q := by
  intro l p e s m args below meth c D dT q A H locs lsA hC hl hP hD hS
  exact lv_ladd hC.1 hC.2.1 hd  (kk l p e s m args below meth c D dT q A H locs lsA hC hl hP hD hS)
theorem mx_land {x y : Int64} (hd : decode J.2.1 k = .ok (.land, 1)) 
    (kk : mx_W K T cl J R (k + 1) ls (.long (x &&& y) :: rest) hp Q) : mx_W K T cl J R k ls (.long y :: .long x :: rest) hp Q := by
  intro l p e s m args below meth c D dT q A H locs lsA hC hl hP hD hS
  exact lv_land hC.1 hC.2.1 hd  (kk l p e s m args below meth c D dT q A H locs lsA hC hl hP hD hS)
theorem mx_lor {x y : Int64} (hd : decode J.2.1 k = .ok (.lor, 1)) 
    (kk : mx_W K T cl J R (k + 1) ls (.long (x ||| y) :: rest) hp Q) : mx_W K T cl J R k ls (.long y :: .long x :: rest) hp Q := by
  intro l p e s m args below meth c D dT q A H locs lsA hC hl hP hD hS
  exact lv_lor hC.1 hC.2.1 hd  (kk l p e s m args below meth c D dT q A H locs lsA hC hl hP hD hS)
theorem mx_lxor {x y : Int64} (hd : decode J.2.1 k = .ok (.lxor, 1)) 
    (kk : mx_W K T cl J R (k + 1) ls (.long (x ^^^ y) :: rest) hp Q) : mx_W K T cl J R k ls (.long y :: .long x :: rest) hp Q := by
  intro l p e s m args below meth c D dT q A H locs lsA hC hl hP hD hS
  exact lv_lxor hC.1 hC.2.1 hd  (kk l p e s m args below meth c D dT q A H locs lsA hC hl hP hD hS)
theorem mx_i2l {x : Int32} {y : Int64} (hd : decode J.2.1 k = .ok (.i2l, 1)) (hv : x.toInt64 = y)
    (kk : mx_W K T cl J R (k + 1) ls (.long y :: rest) hp Q) : mx_W K T cl J R k ls (.int x :: rest) hp Q := by
  intro l p e s m args below meth c D dT q A H locs lsA hC hl hP hD hS
  exact lv_i2l hC.1 hC.2.1 hd hv (kk l p e s m args below meth c D dT q A H locs lsA hC hl hP hD hS)
theorem mx_l2i {x : Int64} {y : Int32} (hd : decode J.2.1 k = .ok (.l2i, 1)) (hv : x.toInt32 = y)
    (kk : mx_W K T cl J R (k + 1) ls (.int y :: rest) hp Q) : mx_W K T cl J R k ls (.long x :: rest) hp Q := by
  intro l p e s m args below meth c D dT q A H locs lsA hC hl hP hD hS
  exact lv_l2i hC.1 hC.2.1 hd hv (kk l p e s m args below meth c D dT q A H locs lsA hC hl hP hD hS)
theorem mx_lushr {x z : Int64} {y : Int32} (hd : decode J.2.1 k = .ok (.lushr, 1)) (hv : (x.toUInt64 >>> (y.toInt64.toUInt64 &&& Int64.toUInt64 63)).toInt64 = z)
    (kk : mx_W K T cl J R (k + 1) ls (.long z :: rest) hp Q) : mx_W K T cl J R k ls (.int y :: .long x :: rest) hp Q := by
  intro l p e s m args below meth c D dT q A H locs lsA hC hl hP hD hS
  exact lv_lushr hC.1 hC.2.1 hd hv (kk l p e s m args below meth c D dT q A H locs lsA hC hl hP hD hS)
theorem mx_lshl {x z : Int64} {y : Int32} (hd : decode J.2.1 k = .ok (.lshl, 1)) (hv : x <<< (y.toInt64 &&& 63) = z)
    (kk : mx_W K T cl J R (k + 1) ls (.long z :: rest) hp Q) : mx_W K T cl J R k ls (.int y :: .long x :: rest) hp Q := by
  intro l p e s m args below meth c D dT q A H locs lsA hC hl hP hD hS
  exact lv_lshl hC.1 hC.2.1 hd hv (kk l p e s m args below meth c D dT q A H locs lsA hC hl hP hD hS)
theorem mx_ineg {x : Int32} (hd : decode J.2.1 k = .ok (.ineg, 1)) 
    (kk : mx_W K T cl J R (k + 1) ls (.int (-x) :: rest) hp Q) : mx_W K T cl J R k ls (.int x :: rest) hp Q := by
  intro l p e s m args below meth c D dT q A H locs lsA hC hl hP hD hS
  exact lv_ineg hC.1 hC.2.1 hd  (kk l p e s m args below meth c D dT q A H locs lsA hC hl hP hD hS)
theorem mx_ishl {x y : Int32} (hd : decode J.2.1 k = .ok (.ishl, 1)) 
    (kk : mx_W K T cl J R (k + 1) ls (.int (x <<< (y &&& 31)) :: rest) hp Q) : mx_W K T cl J R k ls (.int y :: .int x :: rest) hp Q := by
  intro l p e s m args below meth c D dT q A H locs lsA hC hl hP hD hS
  exact lv_ishl hC.1 hC.2.1 hd  (kk l p e s m args below meth c D dT q A H locs lsA hC hl hP hD hS)
theorem mx_ishr {x y : Int32} (hd : decode J.2.1 k = .ok (.ishr, 1)) 
    (kk : mx_W K T cl J R (k + 1) ls (.int (x >>> (y &&& 31)) :: rest) hp Q) : mx_W K T cl J R k ls (.int y :: .int x :: rest) hp Q := by
  intro l p e s m args below meth c D dT q A H locs lsA hC hl hP hD hS
  exact lv_ishr hC.1 hC.2.1 hd  (kk l p e s m args below meth c D dT q A H locs lsA hC hl hP hD hS)
theorem mx_idiv {x y : Int32} (hd : decode J.2.1 k = .ok (.idiv, 1)) (hne : ¬ y = 0)
    (kk : mx_W K T cl J R (k + 1) ls (.int (x / y) :: rest) hp Q) : mx_W K T cl J R k ls (.int y :: .int x :: rest) hp Q := by
  intro l p e s m args below meth c D dT q A H locs lsA hC hl hP hD hS
  exact lv_idiv hC.1 hC.2.1 hd hne (kk l p e s m args below meth c D dT q A H locs lsA hC hl hP hD hS)
theorem mx_dup {v : Value} (hd : decode J.2.1 k = .ok (.dup, 1)) (hv : v.category = 1)
    (kk : mx_W K T cl J R (k + 1) ls (v :: v :: rest) hp Q) : mx_W K T cl J R k ls (v :: rest) hp Q := by
  intro l p e s m args below meth c D dT q A H locs lsA hC hl hP hD hS
  exact lv_dup hC.1 hC.2.1 hd ((mx_v_cat q v).trans hv) (kk l p e s m args below meth c D dT q A H locs lsA hC hl hP hD hS)
theorem mx_pop {v : Value} (hd : decode J.2.1 k = .ok (.pop, 1)) (hv : v.category = 1)
    (kk : mx_W K T cl J R (k + 1) ls rest hp Q) : mx_W K T cl J R k ls (v :: rest) hp Q := by
  intro l p e s m args below meth c D dT q A H locs lsA hC hl hP hD hS
  exact lv_pop hC.1 hC.2.1 hd ((mx_v_cat q v).trans hv) (kk l p e s m args below meth c D dT q A H locs lsA hC hl hP hD hS)
theorem mx_dup_x1 {v u : Value} (hd : decode J.2.1 k = .ok (.dup_x1, 1)) (hv : v.category = 1) (hu : u.category = 1)
    (kk : mx_W K T cl J R (k + 1) ls (v :: u :: v :: rest) hp Q) : mx_W K T cl J R k ls (v :: u :: rest) hp Q := by
  intro l p e s m args below meth c D dT q A H locs lsA hC hl hP hD hS
  exact lv_dup_x1 hC.1 hC.2.1 hd ((mx_v_cat q v).trans hv) ((mx_v_cat q u).trans hu) (kk l p e s m args below meth c D dT q A H locs lsA hC hl hP hD hS)
theorem mx_dup_x2 {v u z : Value} (hd : decode J.2.1 k = .ok (.dup_x2, 1)) (hv : v.category = 1) (hu : u.category = 1) (hz : z.category = 1)
    (kk : mx_W K T cl J R (k + 1) ls (v :: u :: z :: v :: rest) hp Q) : mx_W K T cl J R k ls (v :: u :: z :: rest) hp Q := by
  intro l p e s m args below meth c D dT q A H locs lsA hC hl hP hD hS
  exact lv_dup_x2 hC.1 hC.2.1 hd ((mx_v_cat q v).trans hv) ((mx_v_cat q u).trans hu) ((mx_v_cat q z).trans hz) (kk l p e s m args below meth c D dT q A H locs lsA hC hl hP hD hS)
theorem mx_dup2 {v u : Value} (hd : decode J.2.1 k = .ok (.dup2, 1)) (hv : v.category = 1) (hu : u.category = 1)
    (kk : mx_W K T cl J R (k + 1) ls (v :: u :: v :: u :: rest) hp Q) : mx_W K T cl J R k ls (v :: u :: rest) hp Q := by
  intro l p e s m args below meth c D dT q A H locs lsA hC hl hP hD hS
  exact lv_dup2_11 hC.1 hC.2.1 hd ((mx_v_cat q v).trans hv) ((mx_v_cat q u).trans hu) (kk l p e s m args below meth c D dT q A H locs lsA hC hl hP hD hS)
theorem mx_if_eq {x : Int32} {off : Int} (tgt : Nat) (hd : decode J.2.1 k = .ok (.ifCond .eq off, 3)) (ht : (k : Int) + off = (tgt : Int))
    (kt : x = 0 → mx_W K T cl J R tgt ls rest hp Q) (kf : ¬ x = 0 → mx_W K T cl J R (k + 3) ls rest hp Q) : mx_W K T cl J R k ls (.int x :: rest) hp Q := by
  intro l p e s m args below meth c D dT q A H locs lsA hC hl hP hD hS
  exact lv_if_eq hC.1 hC.2.1 hd ht (fun h9 => kt h9 l p e s m args below meth c D dT q A H locs lsA hC hl hP hD hS) (fun h9 => kf h9 l p e s m args below meth c D dT q A H locs lsA hC hl hP hD hS)
theorem mx_icmp_eq {x y : Int32} {off : Int} (tgt : Nat) (hd : decode J.2.1 k = .ok (.if_icmp .eq off, 3)) (ht : (k : Int) + off = (tgt : Int))
    (kt : x = y → mx_W K T cl J R tgt ls rest hp Q) (kf : ¬ x = y → mx_W K T cl J R (k + 3) ls rest hp Q) : mx_W K T cl J R k ls (.int y :: .int x :: rest) hp Q := by
  intro l p e s m args below meth c D dT q A H locs lsA hC hl hP hD hS
  exact lv_icmp_eq hC.1 hC.2.1 hd ht (fun h9 => kt h9 l p e s m args below meth c D dT q A H locs lsA hC hl hP hD hS) (fun h9 => kf h9 l p e s m args below meth c D dT q A H locs lsA hC hl hP hD hS)
theorem mx_if_ne {x : Int32} {off : Int} (tgt : Nat) (hd : decode J.2.1 k = .ok (.ifCond .ne off, 3)) (ht : (k : Int) + off = (tgt : Int))
    (kt : ¬ x = 0 → mx_W K T cl J R tgt ls rest hp Q) (kf : x = 0 → mx_W K T cl J R (k + 3) ls rest hp Q) : mx_W K T cl J R k ls (.int x :: rest) hp Q := by
  intro l p e s m args below meth c D dT q A H locs lsA hC hl hP hD hS
  exact lv_if_ne hC.1 hC.2.1 hd ht (fun h9 => kt h9 l p e s m args below meth c D dT q A H locs lsA hC hl hP hD hS) (fun h9 => kf h9 l p e s m args below meth c D dT q A H locs lsA hC hl hP hD hS)
theorem mx_icmp_ne {x y : Int32} {off : Int} (tgt : Nat) (hd : decode J.2.1 k = .ok (.if_icmp .ne off, 3)) (ht : (k : Int) + off = (tgt : Int))
    (kt : ¬ x = y → mx_W K T cl J R tgt ls rest hp Q) (kf : x = y → mx_W K T cl J R (k + 3) ls rest hp Q) : mx_W K T cl J R k ls (.int y :: .int x :: rest) hp Q := by
  intro l p e s m args below meth c D dT q A H locs lsA hC hl hP hD hS
  exact lv_icmp_ne hC.1 hC.2.1 hd ht (fun h9 => kt h9 l p e s m args below meth c D dT q A H locs lsA hC hl hP hD hS) (fun h9 => kf h9 l p e s m args below meth c D dT q A H locs lsA hC hl hP hD hS)
theorem mx_if_lt {x : Int32} {off : Int} (tgt : Nat) (hd : decode J.2.1 k = .ok (.ifCond .lt off, 3)) (ht : (k : Int) + off = (tgt : Int))
    (kt : x < 0 → mx_W K T cl J R tgt ls rest hp Q) (kf : ¬ x < 0 → mx_W K T cl J R (k + 3) ls rest hp Q) : mx_W K T cl J R k ls (.int x :: rest) hp Q := by
  intro l p e s m args below meth c D dT q A H locs lsA hC hl hP hD hS
  exact lv_if_lt hC.1 hC.2.1 hd ht (fun h9 => kt h9 l p e s m args below meth c D dT q A H locs lsA hC hl hP hD hS) (fun h9 => kf h9 l p e s m args below meth c D dT q A H locs lsA hC hl hP hD hS)
theorem mx_icmp_lt {x y : Int32} {off : Int} (tgt : Nat) (hd : decode J.2.1 k = .ok (.if_icmp .lt off, 3)) (ht : (k : Int) + off = (tgt : Int))
    (kt : x < y → mx_W K T cl J R tgt ls rest hp Q) (kf : ¬ x < y → mx_W K T cl J R (k + 3) ls rest hp Q) : mx_W K T cl J R k ls (.int y :: .int x :: rest) hp Q := by
  intro l p e s m args below meth c D dT q A H locs lsA hC hl hP hD hS
  exact lv_icmp_lt hC.1 hC.2.1 hd ht (fun h9 => kt h9 l p e s m args below meth c D dT q A H locs lsA hC hl hP hD hS) (fun h9 => kf h9 l p e s m args below meth c D dT q A H locs lsA hC hl hP hD hS)
theorem mx_if_ge {x : Int32} {off : Int} (tgt : Nat) (hd : decode J.2.1 k = .ok (.ifCond .ge off, 3)) (ht : (k : Int) + off = (tgt : Int))
    (kt : 0 ≤ x → mx_W K T cl J R tgt ls rest hp Q) (kf : ¬ 0 ≤ x → mx_W K T cl J R (k + 3) ls rest hp Q) : mx_W K T cl J R k ls (.int x :: rest) hp Q := by
  intro l p e s m args below meth c D dT q A H locs lsA hC hl hP hD hS
  exact lv_if_ge hC.1 hC.2.1 hd ht (fun h9 => kt h9 l p e s m args below meth c D dT q A H locs lsA hC hl hP hD hS) (fun h9 => kf h9 l p e s m args below meth c D dT q A H locs lsA hC hl hP hD hS)
theorem mx_icmp_ge {x y : Int32} {off : Int} (tgt : Nat) (hd : decode J.2.1 k = .ok (.if_icmp .ge off, 3)) (ht : (k : Int) + off = (tgt : Int))
    (kt : y ≤ x → mx_W K T cl J R tgt ls rest hp Q) (kf : ¬ y ≤ x → mx_W K T cl J R (k + 3) ls rest hp Q) : mx_W K T cl J R k ls (.int y :: .int x :: rest) hp Q := by
  intro l p e s m args below meth c D dT q A H locs lsA hC hl hP hD hS
  exact lv_icmp_ge hC.1 hC.2.1 hd ht (fun h9 => kt h9 l p e s m args below meth c D dT q A H locs lsA hC hl hP hD hS) (fun h9 => kf h9 l p e s m args below meth c D dT q A H locs lsA hC hl hP hD hS)
theorem mx_if_gt {x : Int32} {off : Int} (tgt : Nat) (hd : decode J.2.1 k = .ok (.ifCond .gt off, 3)) (ht : (k : Int) + off = (tgt : Int))
    (kt : 0 < x → mx_W K T cl J R tgt ls rest hp Q) (kf : ¬ 0 < x → mx_W K T cl J R (k + 3) ls rest hp Q) : mx_W K T cl J R k ls (.int x :: rest) hp Q := by
  intro l p e s m args below meth c D dT q A H locs lsA hC hl hP hD hS
  exact lv_if_gt hC.1 hC.2.1 hd ht (fun h9 => kt h9 l p e s m args below meth c D dT q A H locs lsA hC hl hP hD hS) (fun h9 => kf h9 l p e s m args below meth c D dT q A H locs lsA hC hl hP hD hS)
theorem mx_icmp_gt {x y : Int32} {off : Int} (tgt : Nat) (hd : decode J.2.1 k = .ok (.if_icmp .gt off, 3)) (ht : (k : Int) + off = (tgt : Int))
    (kt : y < x → mx_W K T cl J R tgt ls rest hp Q) (kf : ¬ y < x → mx_W K T cl J R (k + 3) ls rest hp Q) : mx_W K T cl J R k ls (.int y :: .int x :: rest) hp Q := by
  intro l p e s m args below meth c D dT q A H locs lsA hC hl hP hD hS
  exact lv_icmp_gt hC.1 hC.2.1 hd ht (fun h9 => kt h9 l p e s m args below meth c D dT q A H locs lsA hC hl hP hD hS) (fun h9 => kf h9 l p e s m args below meth c D dT q A H locs lsA hC hl hP hD hS)
theorem mx_if_le {x : Int32} {off : Int} (tgt : Nat) (hd : decode J.2.1 k = .ok (.ifCond .le off, 3)) (ht : (k : Int) + off = (tgt : Int))
    (kt : x ≤ 0 → mx_W K T cl J R tgt ls rest hp Q) (kf : ¬ x ≤ 0 → mx_W K T cl J R (k + 3) ls rest hp Q) : mx_W K T cl J R k ls (.int x :: rest) hp Q := by
  intro l p e s m args below meth c D dT q A H locs lsA hC hl hP hD hS
  exact lv_if_le hC.1 hC.2.1 hd ht (fun h9 => kt h9 l p e s m args below meth c D dT q A H locs lsA hC hl hP hD hS) (fun h9 => kf h9 l p e s m args below meth c D dT q A H locs lsA hC hl hP hD hS)
theorem mx_icmp_le {x y : Int32} {off : Int} (tgt : Nat) (hd : decode J.2.1 k = .ok (.if_icmp .le off, 3)) (ht : (k : Int) + off = (tgt : Int))
    (kt : x ≤ y → mx_W K T cl J R tgt ls rest hp Q) (kf : ¬ x ≤ y → mx_W K T cl J R (k + 3) ls rest hp Q) : mx_W K T cl J R k ls (.int y :: .int x :: rest) hp Q := by
  intro l p e s m args below meth c D dT q A H locs lsA hC hl hP hD hS
  exact lv_icmp_le hC.1 hC.2.1 hd ht (fun h9 => kt h9 l p e s m args below meth c D dT q A H locs lsA hC hl hP hD hS) (fun h9 => kf h9 l p e s m args below meth c D dT q A H locs lsA hC hl hP hD hS)
theorem mx_goto {off : Int} (tgt : Nat) (hd : decode J.2.1 k = .ok (.goto off, 3)) (ht : (k : Int) + off = (tgt : Int))
    (kk : mx_W K T cl J R tgt ls rest hp Q) : mx_W K T cl J R k ls rest hp Q := by
  intro l p e s m args below meth c D dT q A H locs lsA hC hl hP hD hS
  exact lv_goto hC.1 hC.2.1 hd ht (kk l p e s m args below meth c D dT q A H locs lsA hC hl hP hD hS)
theorem mx_tableIn {dflt lo hi : Int} {offs : Array Int} {len : Nat} {x : Int32} {off : Int} (tgt : Nat) (hd : decode J.2.1 k = .ok (.tableswitch dflt lo hi offs, len)) (h1 : ¬ x.toInt < lo) (h2 : ¬ hi < x.toInt) (ho : offs[(x.toInt - lo).toNat]? = some off) (ht : (k : Int) + off = (tgt : Int))
    (kk : mx_W K T cl J R tgt ls rest hp Q) : mx_W K T cl J R k ls (.int x :: rest) hp Q := by
  intro l p e s m args below meth c D dT q A H locs lsA hC hl hP hD hS
  exact lv_tableIn hC.1 hC.2.1 hd h1 h2 ho ht (kk l p e s m args below meth c D dT q A H locs lsA hC hl hP hD hS)
theorem mx_tableOut {dflt lo hi : Int} {offs : Array Int} {len : Nat} {x : Int32} (tgt : Nat) (hd : decode J.2.1 k = .ok (.tableswitch dflt lo hi offs, len)) (h : x.toInt < lo ∨ hi < x.toInt) (ht : (k : Int) + dflt = (tgt : Int))
    (kk : mx_W K T cl J R tgt ls rest hp Q) : mx_W K T cl J R k ls (.int x :: rest) hp Q := by
  intro l p e s m args below meth c D dT q A H locs lsA hC hl hP hD hS
  exact lv_tableOut hC.1 hC.2.1 hd h ht (kk l p e s m args below meth c D dT q A H locs lsA hC hl hP hD hS)
theorem mx_ldc {idx : Nat} {x : Int32} (hd : decode J.2.1 k = .ok (.ldc idx, 2)) (hc : Jvm.Cond.constant J.1.cls idx x ∈ T)
    (kk : mx_W K T cl J R (k + 2) ls (.int x :: rest) hp Q) : mx_W K T cl J R k ls rest hp Q := by
  intro l p e s m args below meth c D dT q A H locs lsA hC hl hP hD hS
  exact lv_ldc hC.1 hC.2.1 hC.2.2.2.2.1 (hC.2.2.2.2.2.1 _ hc) hd (kk l p e s m args below meth c D dT q A H locs lsA hC hl hP hD hS)
theorem mx_ldc2 {idx : Nat} {x : Int64} (hd : decode J.2.1 k = .ok (.ldc2_w idx, 3)) (hc : Jvm.Cond.constantLong J.1.cls idx x ∈ T)
    (kk : mx_W K T cl J R (k + 3) ls (.long x :: rest) hp Q) : mx_W K T cl J R k ls rest hp Q := by
  intro l p e s m args below meth c D dT q A H locs lsA hC hl hP hD hS
  exact lv_ldc2 hC.1 hC.2.1 hC.2.2.2.2.1 (hC.2.2.2.2.2.1 _ hc) hd (kk l p e s m args below meth c D dT q A H locs lsA hC hl hP hD hS)
theorem mx_iald {b n : Nat} {f : Nat → Int32} {i : Int32} (hd : decode J.2.1 k = .ok (.iaload, 1)) (hb : hp[b]? = some (.inl (0, n, .inl f))) (hin : vp_in i n)
    (kk : mx_W K T cl J R (k + 1) ls (.int (f i.toNatClampNeg) :: rest) hp Q) : mx_W K T cl J R k ls (.int i :: .ref b :: rest) hp Q := by
  intro l p e s m args below meth c D dT q A H locs lsA hC hl hP hD hS
  exact va_iald hC.1 hC.2.1 hC.2.2.2.2.2.2.1 hP b 0 (mx_w_get hb) rfl hin hd (kk l p e s m args below meth c D dT q A H locs lsA hC hl hP hD hS)
theorem mx_zald {b n : Nat} {f : Nat → Int32} {i : Int32} (hd : decode J.2.1 k = .ok (.baload, 1)) (hb : hp[b]? = some (.inl (2, n, .inl f))) (hin : vp_in i n)
    (kk : mx_W K T cl J R (k + 1) ls (.int (f i.toNatClampNeg) :: rest) hp Q) : mx_W K T cl J R k ls (.int i :: .ref b :: rest) hp Q := by
  intro l p e s m args below meth c D dT q A H locs lsA hC hl hP hD hS
  exact va_zald hC.1 hC.2.1 hC.2.2.2.2.2.2.1 hP b 2 (mx_w_get hb) rfl hin hd (kk l p e s m args below meth c D dT q A H locs lsA hC hl hP hD hS)
theorem mx_lald {b n : Nat} {f : Nat → Int64} {i : Int32} (hd : decode J.2.1 k = .ok (.laload, 1)) (hb : hp[b]? = some (.inl (1, n, .inr (.inl f)))) (hin : vp_in i n)
    (kk : mx_W K T cl J R (k + 1) ls (.long (f i.toNatClampNeg) :: rest) hp Q) : mx_W K T cl J R k ls (.int i :: .ref b :: rest) hp Q := by
  intro l p e s m args below meth c D dT q A H locs lsA hC hl hP hD hS
  exact va_lald hC.1 hC.2.1 hC.2.2.2.2.2.2.1 hP b 1 (mx_w_get hb) rfl hin hd (kk l p e s m args below meth c D dT q A H locs lsA hC hl hP hD hS)
theorem mx_iast {b n : Nat} {f : Nat → Int32} {i : Int32} {x : Int32} (hd : decode J.2.1 k = .ok (.iastore, 1)) (hb : hp[b]? = some (.inl (0, n, .inl f))) (hin : vp_in i n)
    (kk : mx_W K T cl J R (k + 1) ls rest (hp.set b (.inl (0, n, .inl (upd f i.toNatClampNeg x)))) Q) : mx_W K T cl J R k ls (.int x :: .int i :: .ref b :: rest) hp Q := by
  intro l p e s m args below meth c D dT q A H locs lsA hC hl hP hD hS
  refine va_iast hC.1 hC.2.1 hC.2.2.2.2.2.2.1 hP hD hS b 0 (mx_w_get hb) rfl hin hd (fun H1 locs1 hP1 hD1 hS1 => ?_)
  have e1 := mx_w_set q dT hp b (.inl (0, n, .inl (upd f i.toNatClampNeg x)))
  exact kk l p e s m args below meth c D dT q A H1 locs1 lsA hC hl (e1 ▸ hP1) (e1 ▸ hD1) hS1
theorem mx_zast {b n : Nat} {f : Nat → Int32} {i : Int32} {x : Int32} (hd : decode J.2.1 k = .ok (.bastore, 1)) (hb : hp[b]? = some (.inl (2, n, .inl f))) (hin : vp_in i n)
    (kk : mx_W K T cl J R (k + 1) ls rest (hp.set b (.inl (2, n, .inl (upd f i.toNatClampNeg (vp_nar .boolean x))))) Q) : mx_W K T cl J R k ls (.int x :: .int i :: .ref b :: rest) hp Q := by
  intro l p e s m args below meth c D dT q A H locs lsA hC hl hP hD hS
  refine va_zast hC.1 hC.2.1 hC.2.2.2.2.2.2.1 hP hD hS b 2 (mx_w_get hb) rfl hin hd (fun H1 locs1 hP1 hD1 hS1 => ?_)
  have e1 := mx_w_set q dT hp b (.inl (2, n, .inl (upd f i.toNatClampNeg (vp_nar .boolean x))))
  exact kk l p e s m args below meth c D dT q A H1 locs1 lsA hC hl (e1 ▸ hP1) (e1 ▸ hD1) hS1
theorem mx_last {b n : Nat} {f : Nat → Int64} {i : Int32} {x : Int64} (hd : decode J.2.1 k = .ok (.lastore, 1)) (hb : hp[b]? = some (.inl (1, n, .inr (.inl f)))) (hin : vp_in i n)
    (kk : mx_W K T cl J R (k + 1) ls rest (hp.set b (.inl (1, n, .inr (.inl (vp_updL f i.toNatClampNeg x))))) Q) : mx_W K T cl J R k ls (.long x :: .int i :: .ref b :: rest) hp Q := by
  intro l p e s m args below meth c D dT q A H locs lsA hC hl hP hD hS
  refine va_last hC.1 hC.2.1 hC.2.2.2.2.2.2.1 hP hD hS b 1 (mx_w_get hb) rfl hin hd (fun H1 locs1 hP1 hD1 hS1 => ?_)
  have e1 := mx_w_set q dT hp b (.inl (1, n, .inr (.inl (vp_updL f i.toNatClampNeg x))))
  exact kk l p e s m args below meth c D dT q A H1 locs1 lsA hC hl (e1 ▸ hP1) (e1 ▸ hD1) hS1
theorem mx_aald {b n y : Nat} {f : Nat → Option Nat} {i : Int32} (hd : decode J.2.1 k = .ok (.aaload, 1)) (hb : hp[b]? = some (.inl (3, n, .inr (.inr (.inr (.inr f)))))) (hin : vp_in i n) (hy : f i.toNatClampNeg = some y)
    (kk : mx_W K T cl J R (k + 1) ls (.ref y :: rest) hp Q) : mx_W K T cl J R k ls (.int i :: .ref b :: rest) hp Q := by
  intro l p e s m args below meth c D dT q A H locs lsA hC hl hP hD hS
  have hlt : i.toNatClampNeg < n := Nat.not_le.mp fun h => hin (Or.inr h)
  have hcell := hP b _ (mx_w_get hb)
  exact W.aald (v := .ref (q y)) (ty := .array .int) hC.1 hC.2.1 hcell ((hC.2.2.2.2.2.2.1.2 3 _ rfl).1 n (fun j => va_rf ((f j).map q))) rfl (fun h => by cases h) (by show ¬ (i < 0 ∨ (arrV (dT 3) n (fun j => va_rf ((f j).map q))).slots.size ≤ _); rw [arrV_size]; exact hin) (by show (arrV (dT 3) n (fun j => va_rf ((f j).map q))).slots[i.toNatClampNeg]? = _; rw [arrV_read _ _ hlt, hy]; rfl) rfl rfl hd (kk l p e s m args below meth c D dT q A H locs lsA hC hl hP hD hS)
theorem mx_alen {b t : Nat} {x : vp_A} {ty : FieldType} {v : Int32} (hd : decode J.2.1 k = .ok (.arraylength, 1)) (hb : hp[b]? = some (.inl (t, x))) (ht : ∀ dT, (mx_tys dT)[t]? = some (dT t, ty)) (hv : Int32.ofNat x.1 = v)
    (kk : mx_W K T cl J R (k + 1) ls (.int v :: rest) hp Q) : mx_W K T cl J R k ls (.ref b :: rest) hp Q := by
  intro l p e s m args below meth c D dT q A H locs lsA hC hl hP hD hS
  have hx : (mx_a q x).1 = x.1 := by obtain ⟨n, a | a | a | a | a⟩ := x <;> rfl
  exact va_alen hC.1 hC.2.1 hC.2.2.2.2.2.2.1 hP b t (mx_w_get hb) (ht dT) (by rw [hx]; exact hv) hd (kk l p e s m args below meth c D dT q A H locs lsA hC hl hP hD hS)
def mx_fl (T : List Cond) (own : String) (idx : Nat) (F : u_T) (fi : Nat) : Prop := Cond.fieldLink own idx (F fi).1 (F fi).2.1 (F fi).2.2.1 ∈ T ∨ ∃ host, Cond.fieldLinkNest own idx (F fi).1 (F fi).2.1 (F fi).2.2.1 host ∈ T
def mx_fg (T : List Cond) (cl : List vw_C) (own : String) (idx ci fi : Nat) : Prop := ∃ (C : String) (F : u_T) (N : Nat), cl[ci]? = some (C, F, N) ∧ fi < N ∧ (∀ w ∈ u_ws C F N, w ∈ T) ∧ mx_fl T own idx F fi
theorem mx_get {idx b : Nat} {fs : List Value} {v : Value} (ci fi : Nat) (hd : decode J.2.1 k = .ok (.getfield idx, 3)) (hf : mx_fg T cl J.1.cls idx ci fi) (hb : hp[b]? = some (.inr (ci, fs))) (hv : fs[fi]? = some v)
    (kk : mx_W K T cl J R (k + 3) ls (v :: rest) hp Q) : mx_W K T cl J R k ls (.ref b :: rest) hp Q := by
  intro l p e s m args below meth c D dT q A H locs lsA hC hl hP hD hS
  obtain ⟨C, F, N, h1, h2, h3, h4⟩ := hf
  have hv' : (fs.map (mx_v q))[fi]? = some (mx_v q v) := by rw [List.getElem?_map, hv]; rfl
  rcases h4 with h4 | ⟨host, h4⟩
  · exact va_get hC.1 hC.2.1 hC.2.2.2.2.2.1 h3 hC.2.2.2.2.1 hC.2.2.2.2.2.2.1 hP b (mx_w_get hb) h1 fi h2 (hC.2.2.2.2.2.1 _ h4) (fun _ h => h) hv' hd (kk l p e s m args below meth c D dT q A H locs lsA hC hl hP hD hS)
  · exact va_getN hC.1 hC.2.1 hC.2.2.2.2.2.1 h3 hC.2.2.2.2.1 hC.2.2.2.2.2.2.1 hP b (mx_w_get hb) h1 fi h2 (hC.2.2.2.2.2.1 _ h4) (fun _ h => h) hv' hd (kk l p e s m args below meth c D dT q A H locs lsA hC hl hP hD hS)
def mx_fp (T : List Cond) (cl : List vw_C) (own : String) (idx ci fi : Nat) (ty : FieldType) : Prop := ∃ (C : String) (F : u_T) (N : Nat) (ty0 : Nat → FieldType), cl[ci]? = some (C, F, N) ∧ fi < N ∧ (∀ w ∈ u_ws C F N, w ∈ T) ∧ mx_fl T own idx F fi ∧
  (∀ k, k < N → parseFieldDescriptor (F k).2.2.1 = some (ty0 k)) ∧ (∀ a, a < N → ∀ b, b < N → a ≠ b → (F a).2.1 ≠ (F b).2.1) ∧ (F fi).2.2.2 = false ∧ parseFieldDescriptor (F fi).2.2.1 = some ty
theorem mx_put {idx b : Nat} {fs : List Value} {x : Int32} (ci fi : Nat) (ty : FieldType) (hd : decode J.2.1 k = .ok (.putfield idx, 3)) (hf : mx_fp T cl J.1.cls idx ci fi ty) (hb : hp[b]? = some (.inr (ci, fs))) (hl : fi < fs.length) (hn : narrow ty (.int x) = .int x) (hfit : fits ty (.int x) = true)
    (kk : mx_W K T cl J R (k + 3) ls rest (hp.set b (.inr (ci, fs.set fi (.int x)))) Q) : mx_W K T cl J R k ls (.int x :: .ref b :: rest) hp Q := by
  intro l p e s m args below meth c D dT q A H locs lsA hC hls hP hD hS
  obtain ⟨C, F, N, ty0, h1, h2, h3, h4, h5, h6, h7, h8⟩ := hf
  have e1 := mx_w_set q dT hp b (.inr (ci, fs.set fi (.int x)))
  have e2 : mx_e q dT (.inr (ci, fs.set fi (.int x))) = .inr (ci, (fs.map (mx_v q)).set fi (.int x)) := by
    show Sum.inr (ci, (fs.set fi (.int x)).map (mx_v q)) = _
    rw [List.map_set]
    rfl
  rw [e2] at e1
  rcases h4 with h4 | ⟨host, h4⟩
  · exact va_put hC.1 hC.2.1 hC.2.2.2.2.2.1 h3 ty0 h5 h6 hC.2.2.2.2.1 hC.2.2.2.2.2.2.1 hP hD hS b (mx_w_get hb) h1 fi h2 (hC.2.2.2.2.2.1 _ h4) (fun _ h => h) h7 h8 hn hfit (by simpa using hl) hd (fun H1 locs1 hP1 hD1 hS1 => kk l p e s m args below meth c D dT q A H1 locs1 lsA hC hls (e1 ▸ hP1) (e1 ▸ hD1) hS1)
  · exact va_putN hC.1 hC.2.1 hC.2.2.2.2.2.1 h3 ty0 h5 h6 hC.2.2.2.2.1 hC.2.2.2.2.2.2.1 hP hD hS b (mx_w_get hb) h1 fi h2 (hC.2.2.2.2.2.1 _ h4) (fun _ h => h) h7 h8 hn hfit (by simpa using hl) hd (fun H1 locs1 hP1 hD1 hS1 => kk l p e s m args below meth c D dT q A H1 locs1 lsA hC hls (e1 ▸ hP1) (e1 ▸ hD1) hS1)
theorem mx_max {idx : Nat} {x y : Int32} (hd : decode J.2.1 k = .ok (.invokestatic idx, 3)) (h1 : Cond.methodLink J.1.cls idx Lib.Math.max.name ∈ T) (h2 : Cond.static Lib.Math.max.name ∈ T) (h3 : Cond.initialized "java/lang/Math" ∈ T) (h4 : Cond.code Lib.Math.max.name Lib.Math.max.code 2 (some .int) ∈ T) (hfr : 1 ≤ R.frames) (hlo : (rest.map fun v => v.category).sum + 13 ≤ R.locals)
    (kk : mx_W K T cl J R (k + 3) ls (.int (if x < y then y else x) :: rest) hp Q) : mx_W K T cl J R k ls (.int y :: .int x :: rest) hp Q := by
  intro l p e s m args below meth c D dT q A H locs lsA hC hl hP hD hS
  have hw := hC.2.2.2.2.2.1
  exact va_mmax hC.1 hC.2.1 (hC.2.2.2.1.trans hl.1.symm) hC.2.2.2.2.1 (hw _ h1) (hw _ h2) (hw _ h3) (hw _ h4) hfr (by rw [List.map_map]; simpa [Function.comp_def, mx_v_cat] using hlo) (Nat.zero_le _) (Nat.zero_le _) hd (kk l p e s m args below meth c D dT q A H locs lsA hC hl hP hD hS)
theorem mx_min {idx : Nat} {x y : Int32} (hd : decode J.2.1 k = .ok (.invokestatic idx, 3)) (h1 : Cond.methodLink J.1.cls idx Lib.Math.min.name ∈ T) (h2 : Cond.static Lib.Math.min.name ∈ T) (h3 : Cond.initialized "java/lang/Math" ∈ T) (h4 : Cond.code Lib.Math.min.name Lib.Math.min.code 2 (some .int) ∈ T) (hfr : 1 ≤ R.frames) (hlo : (rest.map fun v => v.category).sum + 13 ≤ R.locals)
    (kk : mx_W K T cl J R (k + 3) ls (.int (if y < x then y else x) :: rest) hp Q) : mx_W K T cl J R k ls (.int y :: .int x :: rest) hp Q := by
  intro l p e s m args below meth c D dT q A H locs lsA hC hl hP hD hS
  have hw := hC.2.2.2.2.2.1
  exact va_mmin hC.1 hC.2.1 (hC.2.2.2.1.trans hl.1.symm) hC.2.2.2.2.1 (hw _ h1) (hw _ h2) (hw _ h3) (hw _ h4) hfr (by rw [List.map_map]; simpa [Function.comp_def, mx_v_cat] using hlo) (Nat.zero_le _) (Nat.zero_le _) hd (kk l p e s m args below meth c D dT q A H locs lsA hC hl hP hD hS)
theorem mx_zero (v : Int32) : narrow .int (.int v) = .int v := rfl
theorem mx_iret {v : Int32} {ty : FieldType} (hd : decode J.2.1 k = .ok (.ireturn, 1)) (hr : J.2.2.2 = some ty) (hn : narrow ty (.int v) = .int v) (hQ : Q (.inl (some (.int v))) hp) : mx_W K T cl J R k ls [.int v] hp Q := by
  intro l p e s m args below meth c D dT q A H locs lsA hC hl hP hD hS
  have hlocks : meth.locks = false := hC.2.2.2.2.2.2.2.1
  refine mx_Wmono ?_ (W.zret (Qc := fun _ _ o t => o = .returned (some (.int v)) ∧ t.heap = H) (free := A) hC.1 hC.2.1 (hC.2.2.1.trans hr) hn (fun t ht _ => ⟨rfl, ht⟩) hS.2.2 hd hlocks)
  intro t ht
  obtain ⟨o, a1, a2, ⟨rfl, hh⟩, L, hF, hL⟩ := ht
  exact ⟨_, .inl (some (.int v)), hp, a1, a2, hQ, by rw [hh]; exact hP, hD, hS.F hh, rfl, L, hF, hL⟩
theorem mx_vret (hd : decode J.2.1 k = .ok (.return_, 1)) (hr : J.2.2.2 = none) (hQ : Q (.inl none) hp) : mx_W K T cl J R k ls [] hp Q := by
  intro l p e s m args below meth c D dT q A H locs lsA hC hl hP hD hS
  have hlocks : meth.locks = false := hC.2.2.2.2.2.2.2.1
  refine mx_Wmono ?_ (W.vret (Qc := fun _ _ o t => o = .returned none ∧ t.heap = H) (free := A) hC.1 hC.2.1 (hC.2.2.1.trans hr) (fun t ht _ => ⟨rfl, ht⟩) hS.2.2 hd hlocks)
  intro t ht
  obtain ⟨o, a1, a2, ⟨rfl, hh⟩, L, hF, hL⟩ := ht
  exact ⟨_, .inl none, hp, a1, a2, hQ, by rw [hh]; exact hP, hD, hS.F hh, rfl, L, hF, hL⟩
end MX
end
section
/-! The engine, second half: a walk is a contract; calls by contract; System.arraycopy. -/
def mx_pad (vs : List Value) (n : Nat) : List Value := vs ++ List.replicate (n - vs.length) (.retAddr 0)
theorem mx_cat_of {vs : List Value} (h : mx_cat1 vs = true) : ∀ v ∈ vs, v.category = 1 := fun v hv => by
  have := List.all_eq_true.mp h v hv
  simpa using this
theorem mx_cat_map {q : Nat → Nat} {vs : List Value} (h : mx_cat1 vs = true) : ∀ v ∈ vs.map (mx_v q), v.category = 1 := fun v hv => by
  obtain ⟨u, hu, rfl⟩ := List.mem_map.mp hv
  rw [mx_v_cat]
  exact mx_cat_of h u hu
theorem mx_sl_len : ∀ (ws : List Value), (∀ v ∈ ws, v.category = 1) → (lg_sl ws).length = ws.length := by
  intro ws
  induction ws with
  | nil => intro _; rfl
  | cons v t ih =>
    intro h
    have h1 := h v List.mem_cons_self
    have h2 := ih (fun u hu => h u (List.mem_cons_of_mem _ hu))
    show ((if v.category = 2 then [Slot.val v, Slot.second] else [Slot.val v]) ++ lg_sl t).length = t.length + 1
    rw [if_neg (by omega), List.length_append, h2]
    simp
    omega
theorem mx_args_mem : ∀ (ws : List Value) (i : Nat), (∀ v ∈ ws, v.category = 1) → ∀ (j : Nat) (v : Value), ws[j]? = some v → (i + j, v) ∈ lv_args i ws := by
  intro ws
  induction ws with
  | nil => intro i _ j v h; simp at h
  | cons u t ih =>
    intro i h j v hj
    have h1 := h u List.mem_cons_self
    cases j with
    | zero =>
      simp at hj
      subst hj
      show (i + 0, u) ∈ (i, u) :: lv_args _ t
      exact List.mem_cons_self
    | succ j =>
      show (i + (j + 1), v) ∈ (i, u) :: lv_args (if u.category = 2 then i + 2 else i + 1) t
      rw [if_neg (by omega)]
      have := ih (i + 1) (fun w hw => h w (List.mem_cons_of_mem _ hw)) j v (by simpa using hj)
      rw [show i + (j + 1) = i + 1 + j by omega]
      exact List.mem_cons_of_mem _ this
theorem mx_entry {q : Nat → Nat} {vs : List Value} {n : Nat} (hc : mx_cat1 vs = true) (hlen : vs.length ≤ n) : lv_has ((lg_sl (vs.map (mx_v q)) ++ List.replicate (n - (lg_sl (vs.map (mx_v q))).length) Slot.unset).toArray) n (mx_l q (mx_pad vs n)) := by
  have hm := mx_cat_map (q := q) hc
  refine mx_has_mono (lv_entry (vs.map (mx_v q)) (n := n) (by rw [mx_sl_len _ hm]; simpa using hlen)) (fun x hx => ?_)
  obtain ⟨v, h1, h2, h3⟩ := mx_l_mem.mp hx
  obtain ⟨i, w⟩ := x
  dsimp only at h1 h3
  have hi : vs[i]? = some v := by
    unfold mx_pad at h1
    by_cases hlt : i < vs.length
    · rwa [List.getElem?_append_left hlt] at h1
    · rw [List.getElem?_append_right (by omega), List.getElem?_replicate] at h1
      split at h1
      · exact absurd (Option.some.inj h1).symm (h2 0)
      · cases h1
  have := mx_args_mem (vs.map (mx_v q)) 0 hm i (mx_v q v) (by rw [List.getElem?_map, hi]; rfl)
  rw [h3]
  simpa using this
def mx_Pc (l : Launch) (D : va_G) (cl : List vw_C) (dT : Nat → ClassId) (q : Nat → Nat) (sz : Nat) (vs : List Value) (hp : List va_E) : Array Value → State → Prop :=
  va_Pc (vs.map (mx_v q)) (fun U => U.heap.size = sz ∧ va_P D cl (mx_w q dT hp) U.heap ∧ va_K D cl (mx_tys dT) U ∧ va_D (fun _ => True) (mx_w q dT hp) ∧ mx_Z0 l U)
def mx_Qc (D : va_G) (cl : List vw_C) (dT : Nat → ClassId) (q : Nat → Nat) (A : Nat → Prop) (Q : mx_O → List va_E → Prop) : Array Value → State → Outcome → State → Prop := fun _ st o t =>
  ∃ (v : Option Value) (hp' : List va_E), o = .returned (v.map (mx_v q)) ∧ Q (.inl v) hp' ∧ va_P D cl (mx_w q dT hp') t.heap ∧ va_D A (mx_w q dT hp') ∧ va_F A st t
theorem mx_blind (l : Launch) (D : va_G) (cl : List vw_C) (dT : Nat → ClassId) (q : Nat → Nat) (sz : Nat) (vs : List Value) (hp : List va_E) : FrameBlind (mx_Pc l D cl dT q sz vs hp) := by
  intro a U g mk h
  obtain ⟨q0, q1, qP, qK, qD, qZ⟩ := h
  exact ⟨q0, q1, qP, va_K.moved (u := U) (U := U.calling g mk a) (Vm.Alike.refl U.vm) qK, qD, mx_Z0_moved (s := U) (U := U.calling g mk a) (Vm.Alike.refl U.vm) (fun _ _ h _ => h) qZ⟩
theorem mx_vmnone {cA : ClassId} {a : vp_A} : (vp_cell cA a).vm = .none := by
  obtain ⟨n, f | f | f | f | f⟩ := a <;> rfl
theorem mx_nostat {D : va_G} {cl : List vw_C} {ws : va_W} {H : Heap} (hP : va_P D cl ws H) : ∀ r : Nat, va_A ws H.size r → ∀ cell : Cell, H[r]? = some cell → cell.vm.isStatics = false := by
  intro r h cell hc
  rcases h with ⟨j, x, h⟩ | h
  · have h1 := hP j _ h
    cases x with
    | inl a =>
      have h2 : H[r]? = some (vp_cell a.1 a.2) := h1
      rw [hc] at h2
      rw [Option.some.inj h2, mx_vmnone]
      rfl
    | inr o =>
      obtain ⟨_, _, cell', e1, _, e3, _⟩ := h1
      have e1 : H[r]? = some cell' := e1
      rw [hc] at e1
      rw [Option.some.inj e1, e3]
      rfl
  · have := (Array.getElem?_eq_some_iff.mp hc).1
    omega
theorem mx_met {K : Nat → Addr → State → State → Prop} {T : List Cond} {cl : List vw_C} {J : mx_J} {R : Room} {hp : List va_E} {Q : mx_O → List va_E → Prop} {vs : List Value} (l : Launch) (D : va_G) (dT : Nat → ClassId) (q : Nat → Nat) (sz : Nat)
    (hy : plainName J.1.cls = true) (hc : mx_cat1 vs = true) (hlen : vs.length ≤ J.2.2.1) (hW : mx_W K T cl J R 0 (mx_pad vs J.2.2.1) [] hp Q) (hQ : ∀ X hp', ¬ Q (.inr X) hp') :
    Met l J.1 (Cond.code J.1 J.2.1 J.2.2.1 J.2.2.2 :: T) R (mx_Pc l D cl dT q sz vs hp) (mx_Qc D cl dT q (va_A (mx_w q dT hp) sz) Q) 0 0 (va_A (mx_w q dT hp) sz) := by
  refine Met.ofW (cc := J.2.1) (maxL := J.2.2.1) (ret := J.2.2.2) hy rfl ?_
  intro p e s m args below meth c s₁ B hml hv
  obtain ⟨rfl, hsz, hP, hK, hD0, hZ0⟩ := hv
  subst hsz
  have hts := atoms_spec (ws := Cond.code J.1 J.2.1 J.2.2.1 J.2.2.2 :: T) B.pre
  rw [lg_entry_eq]
  refine mx_Wmono ?_ (hW l p e s m _ below meth c D dT q _ s.heap [] _ ⟨B.exec, B.bytes, B.returns, hml, findClass_of_methodNamed B.named, fun w hw => hts w (List.mem_cons_of_mem _ hw), hK, B.notSynchronized, fun r h => Or.inr h, mx_nostat hP, hZ0, B.noHandlers (hts _ List.mem_cons_self)⟩ (mx_entry hc hlen) hP hD0.self va_S.rf)
  intro t ht
  obtain ⟨o, r, hp', h1, h2, h3, h4, h5, h6, h7⟩ := ht
  cases r with
  | inl v =>
    obtain ⟨rfl, L, hF, hL⟩ := h7
    exact ⟨_, h1, h2, ⟨v, hp', rfl, h3, h4, h5, h6⟩, L, hF, hL⟩
  | inr X => exact absurd h3 (hQ X hp')
def mx_gw (w : Cond) : Bool := (w.onTables && w.keeps) || match w with
  | .methodLinkNest .. => true
  | .fieldLinkNest .. => true
  | .arrayClass _ => true
  | _ => false
theorem mx_warm {w : Cond} {args a' : Array Value} {s U : State} (h : mx_gw w = true) (hW : s.WarmedH U.vm) (hb : w.before args s = true) : w.before a' U = true := by
  unfold mx_gw at h
  by_cases h1 : (w.onTables && w.keeps) = true
  · exact word_at hW (Or.inl h1) hb
  · rw [Bool.eq_false_iff.mpr h1, Bool.false_or] at h
    split at h
    · exact va_Nw.use rfl (va_Nw.warmM hW (va_Nw.of rfl hb))
    · exact va_Nw.use rfl (va_Nw.warmF hW (va_Nw.of rfl hb))
    · exact word_at hW (Or.inr ⟨_, rfl⟩) hb
    · cases h
def mx_G (T : List Cond) : Prop := ∀ w ∈ T, mx_gw w = true
def mx_ok (T : List Cond) (J : mx_J) (n : Nat) : Prop := Cond.code J.1 J.2.1 J.2.2.1 J.2.2.2 ∈ T ∧ Cond.initialized J.1.cls ∈ T ∧ plainName J.1.cls = true ∧ J.1.cls ≠ "java/lang/invoke/MethodHandle" ∧ J.1.cls ≠ "java/lang/invoke/VarHandle" ∧ (parseMethodDescriptor J.1.desc).map (fun d => d.parameters.length) = some n
def mx_lk (T : List Cond) (own : String) (idx : Nat) (y : MethodName) : Prop := Cond.methodLink own idx y ∈ T ∨ ∃ host, Cond.methodLinkNest own idx y host ∈ T
def mx_rm (R' R : Room) (nL : Nat) : Prop := R'.cells = 0 ∧ R'.slots = 0 ∧ R'.frames + 1 ≤ R.frames ∧ 8 + (nL + 11) + R'.locals ≤ R.locals
theorem mx_hws {T : List Cond} {J : mx_J} {n : Nat} {args : Array Value} {s : State} (hG : mx_G T) (hok : mx_ok T J n) (hw : ∀ w ∈ T, w.before args s = true) : ∀ w ∈ Cond.code J.1 J.2.1 J.2.2.1 J.2.2.2 :: T, ∀ (a' : Array Value) (U : State), s.WarmedH U.vm → w.before a' U = true := by
  intro w h a' U hW
  have h1 : w ∈ T := by
    rcases List.mem_cons.mp h with rfl | h
    · exact hok.1
    · exact h
  exact mx_warm (hG w h1) hW (hw w h1)
theorem mx_par {y : MethodName} {n : Nat} (h : (parseMethodDescriptor y.desc).map (fun d => d.parameters.length) = some n) : ∀ sig, parseMethodDescriptor y.desc = some sig → n = sig.parameters.length := fun sig h2 => by
  rw [h2] at h
  exact (Option.some.inj h).symm
theorem mx_callB {T : List Cond} {J' : mx_J} {R' R : Room} {n idx : Nat} {own : String} {args : Array Value} {s : State} (hG : mx_G T) (hok : mx_ok T J' n) (hw : ∀ w ∈ T, w.before args s = true) (hRm : mx_rm R' R J'.2.2.1) (hlk : Cond.methodLink own idx J'.1 ∈ T) : CallB R s args own idx J'.1 J'.2.1 J'.2.2.1 J'.2.2.2 (Cond.code J'.1 J'.2.1 J'.2.2.1 J'.2.2.2 :: T) R' 0 0 n :=
  ⟨hRm.1, hRm.2.1, hRm.2.2.1, hRm.2.2.2, mx_hws hG hok hw, List.mem_cons_self, hw _ hok.1, hw _ hok.2.1, ⟨hok.2.2.2.1, hok.2.2.2.2.1⟩, mx_par hok.2.2.2.2.2, hw _ hlk⟩
theorem mx_callN {T : List Cond} {J' : mx_J} {R' R : Room} {n idx : Nat} {own host : String} {args : Array Value} {s : State} (hG : mx_G T) (hok : mx_ok T J' n) (hw : ∀ w ∈ T, w.before args s = true) (hRm : mx_rm R' R J'.2.2.1) (hlk : Cond.methodLinkNest own idx J'.1 host ∈ T) : va_CN R s args own idx J'.1 host J'.2.1 J'.2.2.1 J'.2.2.2 (Cond.code J'.1 J'.2.1 J'.2.2.1 J'.2.2.2 :: T) R' 0 0 n :=
  ⟨⟨hRm.1, hRm.2.1, hRm.2.2.1, hRm.2.2.2, mx_hws hG hok hw, List.mem_cons_self⟩, hw _ hok.1, hw _ hok.2.1, ⟨hok.2.2.2.1, hok.2.2.2.2.1⟩, mx_par hok.2.2.2.2.2, hw _ hlk⟩
section MXC
variable {K : Nat → Addr → State → State → Prop} {T : List Cond} {cl : List vw_C} {J : mx_J} {R : Room} {k : Nat} {ls rest : List Value} {hp : List va_E} {Q : mx_O → List va_E → Prop}
theorem mx_after {p : Program} {l : Launch} {e : Env} {s : State} {m : MethodId} {args : Array Value} {below : List Frame} {meth : Method} {c : Code} {D : va_G} {dT : Nat → ClassId} {q : Nat → Nat} {A : Nat → Prop} {H : Heap} {locs : List Loc} {lsA : Array Slot} {st0 : List Value} {av : Array Value} {Qc : mx_O → List va_E → Prop}
    (hr : va_Run p l e R s m args below meth c H locs 0 0 0 0 (F0 m k lsA st0) (rest.map (mx_v q)) (mx_Qc D cl dT q (va_A (mx_w q dT hp) H.size) Qc av) (va_A (mx_w q dT hp) H.size))
    (hC : mx_C T cl J l p s m args meth c D dT A) (hl : lv_has lsA J.2.2.1 (mx_l q ls)) (hP : va_P D cl (mx_w q dT hp) H) (hD : va_D A (mx_w q dT hp)) (hS : va_S A s.heap H locs)
    (next : ∀ v hp', Qc (.inl v) hp' → mx_W K T cl J R (k + 3) ls (v.toList ++ rest) hp' Q) :
    W p l e R s m args below meth c H locs 0 0 (mx_Z K D cl dT q A Q below s) (F0 m k lsA st0) := by
  have hA : ∀ r, va_A (mx_w q dT hp) H.size r → A r := by
    intro r h
    rcases h with ⟨j, x, h⟩ | h
    · exact hD.2 j _ h
    · exact hC.2.2.2.2.2.2.2.2.1 r (Nat.le_trans hS.1 h)
  intro Tt hT X
  obtain ⟨v, st₀, t, T', L, h0, X', hL, e1, e2, ⟨w, hp', hv, hq, hP1, hD1, hz, hk⟩, st⟩ := hr Tt hT X
  have hv := Outcome.returned.inj hv
  subst hv
  rw [h0] at hz hk
  have hS1 : va_S A s.heap T'.heap (locs ++ L) := ⟨Nat.le_trans hS.1 (by rw [e1]; exact hz), fun r h1 h2 => by rw [e1, hk r (Nat.lt_of_lt_of_le h1 hS.1) (fun z => h2 (hA r z))]; exact hS.2.1 r h1 h2, fun r hr => by
    rcases List.mem_append.mp hr with h | h
    · exact hS.2.2 r h
    · exact hA _ (hL r h)⟩
  obtain ⟨t2, a1, b1⟩ := next w hp' hq l p e s m args below meth c D dT q A T'.heap (locs ++ L) lsA hC hl (by rw [e1]; exact hP1) (hD1.weaken (fun _ y _ h => hA y.1 h)) hS1 T' rfl X'
  refine ⟨t2, st t2 ?_, b1⟩
  cases w <;> exact a1

theorem mx_V {J' : mx_J} {R' : Room} {idx n : Nat} {b ci : Nat} {fs : List Value} {r : vw_C} {st : List Value} {Qc : mx_O → List va_E → Prop} (as rest : List Value) (hd : decode J.2.1 k = .ok (.invokevirtual idx, 3)) (hst : st = as.reverse ++ .ref b :: rest) (hG : mx_G T) (hok : mx_ok T J' n) (hV : Cond.instanceMethod J'.1 ∈ T ∧ Cond.selects J'.1.cls J'.1 J'.1 ∈ T) (hlk : mx_lk T J.1.cls idx J'.1) (hRm : mx_rm R' R J'.2.2.1) (hn : as.length = n) (hc1 : mx_cat1 (.ref b :: as) = true) (hle : (.ref b :: as).length ≤ J'.2.2.1) (hrest : (rest.map fun v => v.category).sum ≤ 8) (hb : hp[b]? = some (.inr (ci, fs))) (hci : cl[ci]? = some r) (hr : r.1 = J'.1.cls) 
    (hW : mx_W K T cl J' R' 0 (mx_pad (.ref b :: as) J'.2.2.1) [] hp Qc) (hQc : ∀ X hp', ¬ Qc (.inr X) hp') (next : ∀ v hp', Qc (.inl v) hp' → mx_W K T cl J R (k + 3) ls (v.toList ++ rest) hp' Q) : mx_W K T cl J R k ls st hp Q := by
  subst hst
  intro l p e s m args below meth c D dT q A H locs lsA hC hl hP hD hS
  have hw := hC.2.2.2.2.2.1
  have hM := mx_met l D dT q H.size hok.2.2.1 hc1 hle hW hQc
  have hr8 : ((rest.map (mx_v q)).map fun v => v.category).sum ≤ 8 := by rw [List.map_map]; simpa [Function.comp_def, mx_v_cat] using hrest
  have hpre : ∀ U : State, U.heap = H → s.WarmedH U.vm → mx_Pc l D cl dT q H.size (.ref b :: as) hp ((.ref b :: as).map (mx_v q)).toArray U := fun U hU hWm => ⟨rfl, by rw [hU], by rw [hU]; exact hP, va_K.moved hWm.alike hC.2.2.2.2.2.2.1, hD.weaken (fun _ _ _ _ => trivial), mx_Z0_moved hWm.alike (fun a cell h1 h2 => by rw [hU, hS.2.1 a (Array.getElem?_eq_some_iff.mp h1).1 (fun hA => by have := hC.2.2.2.2.2.2.2.2.2.1 a hA cell h1; rw [h2] at this; cases this)]; exact h1) hC.2.2.2.2.2.2.2.2.2.2.1⟩
  have hbl := mx_blind l D cl dT q H.size (.ref b :: as) hp
  refine W.eq (g2 := F0 m k lsA ((as.map (mx_v q)).reverse ++ .ref (q b) :: rest.map (mx_v q))) (by simp [mx_v]) ?_
  have hrc : ∃ cell : Cell, H[q b]? = some cell ∧ cell.vm.isStatics = false ∧ s.vm.findClass J'.1.cls = some cell.cls := by
    rw [← hr]
    exact va_recv hC.2.2.2.2.2.2.1 hP hci (mx_w_get hb)
  rcases hlk with hlk | ⟨host, hlk⟩
  · exact mx_after (va_runV ⟨hC.1, hC.2.1, hC.2.2.2.1, hC.2.2.2.2.1, hw⟩ hM ⟨mx_callB hG hok hw hRm hlk, hw _ hV.1, hw _ hV.2⟩ ⟨hbl, hrc, hpre⟩ rfl (by simpa using hn) hl.1 rfl (lv_room hr8) hd ⟨Nat.zero_le _, Nat.zero_le _⟩) hC hl hP hD hS next
  · exact mx_after (va_runVN ⟨hC.1, hC.2.1, hC.2.2.2.1, hC.2.2.2.2.1, hw⟩ hM ⟨mx_callN hG hok hw hRm hlk, hw _ hV.1, hw _ hV.2⟩ ⟨hbl, hrc, hpre⟩ rfl (by simpa using hn) hl.1 rfl (lv_room hr8) hd ⟨Nat.zero_le _, Nat.zero_le _⟩) hC hl hP hD hS next
theorem mx_S {J' : mx_J} {R' : Room} {idx n : Nat} {st : List Value} {Qc : mx_O → List va_E → Prop} (as rest : List Value) (hd : decode J.2.1 k = .ok (.invokestatic idx, 3)) (hst : st = as.reverse ++ rest) (hG : mx_G T) (hok : mx_ok T J' n) (hV : Cond.static J'.1 ∈ T) (hlk : mx_lk T J.1.cls idx J'.1) (hRm : mx_rm R' R J'.2.2.1) (hn : as.length = n) (hc1 : mx_cat1 as = true) (hle : as.length ≤ J'.2.2.1) (hrest : (rest.map fun v => v.category).sum ≤ 8) 
    (hW : mx_W K T cl J' R' 0 (mx_pad as J'.2.2.1) [] hp Qc) (hQc : ∀ X hp', ¬ Qc (.inr X) hp') (next : ∀ v hp', Qc (.inl v) hp' → mx_W K T cl J R (k + 3) ls (v.toList ++ rest) hp' Q) : mx_W K T cl J R k ls st hp Q := by
  subst hst
  intro l p e s m args below meth c D dT q A H locs lsA hC hl hP hD hS
  have hw := hC.2.2.2.2.2.1
  have hM := mx_met l D dT q H.size hok.2.2.1 hc1 hle hW hQc
  have hr8 : ((rest.map (mx_v q)).map fun v => v.category).sum ≤ 8 := by rw [List.map_map]; simpa [Function.comp_def, mx_v_cat] using hrest
  have hpre : ∀ U : State, U.heap = H → s.WarmedH U.vm → mx_Pc l D cl dT q H.size as hp (as.map (mx_v q)).toArray U := fun U hU hWm => ⟨rfl, by rw [hU], by rw [hU]; exact hP, va_K.moved hWm.alike hC.2.2.2.2.2.2.1, hD.weaken (fun _ _ _ _ => trivial), mx_Z0_moved hWm.alike (fun a cell h1 h2 => by rw [hU, hS.2.1 a (Array.getElem?_eq_some_iff.mp h1).1 (fun hA => by have := hC.2.2.2.2.2.2.2.2.2.1 a hA cell h1; rw [h2] at this; cases this)]; exact h1) hC.2.2.2.2.2.2.2.2.2.2.1⟩
  have hbl := mx_blind l D cl dT q H.size as hp
  refine W.eq (g2 := F0 m k lsA ((as.map (mx_v q)).reverse ++ rest.map (mx_v q))) (by simp [mx_v]) ?_
  rcases hlk with hlk | ⟨host, hlk⟩
  · exact mx_after (va_runS ⟨hC.1, hC.2.1, hC.2.2.2.1, hC.2.2.2.2.1, hw⟩ hM ⟨mx_callB hG hok hw hRm hlk, hw _ hV⟩ ⟨hbl, hpre⟩ rfl (by simpa using hn) hl.1 rfl (lv_room hr8) hd ⟨Nat.zero_le _, Nat.zero_le _⟩) hC hl hP hD hS next
  · exact mx_after (va_runSN ⟨hC.1, hC.2.1, hC.2.2.2.1, hC.2.2.2.2.1, hw⟩ hM ⟨mx_callN hG hok hw hRm hlk, hw _ hV, trivial⟩ ⟨hbl, hpre⟩ rfl (by simpa using hn) hl.1 rfl (lv_room hr8) hd ⟨Nat.zero_le _, Nat.zero_le _⟩) hC hl hP hD hS next
theorem mx_copyi {idx b0 b1 n0 n1 : Nat} {f g : Nat → Int32} {sp dp n : Int32} (hd : decode J.2.1 k = .ok (.invokestatic idx, 3)) (w1 : Cond.methodLink J.1.cls idx arraycopyName ∈ T) (w2 : Cond.native arraycopyName ∈ T) (w3 : Cond.static arraycopyName ∈ T) (w4 : Cond.initialized "java/lang/System" ∈ T)
    (hb0 : hp[b0]? = some (.inl (0, n0, .inl f))) (hb1 : hp[b1]? = some (.inl (0, n1, .inl g))) (h1 : ¬ sp < 0) (h2 : ¬ dp < 0) (h3 : ¬ n < 0) (h4 : sp.toNatClampNeg + n.toNatClampNeg ≤ n0) (h5 : dp.toNatClampNeg + n.toNatClampNeg ≤ n1)
    (hfr : 1 ≤ R.frames) (hlo : (rest.map fun v => v.category).sum + (nativeFrameWords "java/lang/System" "arraycopy" 5 + 11) ≤ R.locals)
    (kk : mx_W K T cl J R (k + 3) ls rest (hp.set b1 (.inl (0, n1, .inl (va_cpy f g sp.toNatClampNeg dp.toNatClampNeg n.toNatClampNeg)))) Q) : mx_W K T cl J R k ls (.int n :: .int dp :: .ref b1 :: .int sp :: .ref b0 :: rest) hp Q := by
  intro l p e s m args below meth c D dT q A H locs lsA hC hl hP hD hS
  have hw := hC.2.2.2.2.2.1
  refine va_copyi hC.1 hC.2.1 (hC.2.2.2.1.trans hl.1.symm) hC.2.2.2.2.1 (hw _ w1) (hw _ w2) (hw _ w3) (hw _ w4) hC.2.2.2.2.2.2.1 hP hD hS b0 b1 0 0 (mx_w_get hb0) (mx_w_get hb1) rfl rfl rfl h1 h2 h3 h4 h5 (fun _ _ => rfl) hfr (by rw [List.map_map]; simpa [Function.comp_def, mx_v_cat] using hlo) hd (fun H1 locs1 hP1 hD1 hS1 => ?_)
  have e1 := mx_w_set q dT hp b1 (.inl (0, n1, .inl (va_cpy f g sp.toNatClampNeg dp.toNatClampNeg n.toNatClampNeg)))
  exact kk l p e s m args below meth c D dT q A H1 locs1 lsA hC hl (e1 ▸ hP1) (e1 ▸ hD1) hS1
theorem mx_copyl {idx b0 b1 n0 n1 : Nat} {f g : Nat → Int64} {sp dp n : Int32} (hd : decode J.2.1 k = .ok (.invokestatic idx, 3)) (w1 : Cond.methodLink J.1.cls idx arraycopyName ∈ T) (w2 : Cond.native arraycopyName ∈ T) (w3 : Cond.static arraycopyName ∈ T) (w4 : Cond.initialized "java/lang/System" ∈ T)
    (hb0 : hp[b0]? = some (.inl (1, n0, .inr (.inl f)))) (hb1 : hp[b1]? = some (.inl (1, n1, .inr (.inl g)))) (h1 : ¬ sp < 0) (h2 : ¬ dp < 0) (h3 : ¬ n < 0) (h4 : sp.toNatClampNeg + n.toNatClampNeg ≤ n0) (h5 : dp.toNatClampNeg + n.toNatClampNeg ≤ n1)
    (hfr : 1 ≤ R.frames) (hlo : (rest.map fun v => v.category).sum + (nativeFrameWords "java/lang/System" "arraycopy" 5 + 11) ≤ R.locals)
    (kk : mx_W K T cl J R (k + 3) ls rest (hp.set b1 (.inl (1, n1, .inr (.inl (va_cpy f g sp.toNatClampNeg dp.toNatClampNeg n.toNatClampNeg))))) Q) : mx_W K T cl J R k ls (.int n :: .int dp :: .ref b1 :: .int sp :: .ref b0 :: rest) hp Q := by
  intro l p e s m args below meth c D dT q A H locs lsA hC hl hP hD hS
  have hw := hC.2.2.2.2.2.1
  refine va_copyl hC.1 hC.2.1 (hC.2.2.2.1.trans hl.1.symm) hC.2.2.2.2.1 (hw _ w1) (hw _ w2) (hw _ w3) (hw _ w4) hC.2.2.2.2.2.2.1 hP hD hS b0 b1 1 1 (mx_w_get hb0) (mx_w_get hb1) rfl rfl rfl h1 h2 h3 h4 h5 (fun _ _ => rfl) hfr (by rw [List.map_map]; simpa [Function.comp_def, mx_v_cat] using hlo) hd (fun H1 locs1 hP1 hD1 hS1 => ?_)
  have e1 := mx_w_set q dT hp b1 (.inl (1, n1, .inr (.inl (va_cpy f g sp.toNatClampNeg dp.toNatClampNeg n.toNatClampNeg))))
  exact kk l p e s m args below meth c D dT q A H1 locs1 lsA hC hl (e1 ▸ hP1) (e1 ▸ hD1) hS1
end MXC
end
section
/-! The engine, third part: throw new X(); a callee that throws. -/
def mx_xn : Nat → String
  | 0 => "java/lang/IllegalArgumentException"
  | 1 => "java/lang/UnsupportedOperationException"
  | 2 => "java/util/NoSuchElementException"
  | _ => "java/lang/IllegalStateException"
def mx_up : List String := ["java/lang/RuntimeException", "java/lang/Exception"]
/-- the thrown object: a new cell of its class -/
def mx_K (X : Nat) (a : Addr) (s t : State) : Prop := s.heap.size ≤ a ∧ ∃ ce : Cell, t.heap[a]? = some ce ∧ s.vm.findClass (mx_xn X) = some ce.cls ∧ ce.vm = .none
theorem mx_Sf_isRef {C n d : String} {s : State} {args : Array Value} (h : mx_Sf C n d s) : (Cond.isRef (.static C n d)).before args s = true := by
  obtain ⟨cf, kf, fi, f, a, cell, v, h1, h2, h3, h4, h5, h6, h7⟩ := h
  rcases h7 with rfl | ⟨t, rfl⟩ <;> simp [Cond.before, Cond.holds, Cond.value, Term.eval, State.fieldNamed?, h1, h2, h3, h4, h5, h6]
theorem mx_same_old {s t : State} {k n : Nat} (h : s.sameButNew t [] k n) {r : Nat} {cell : Cell} (hr : s.heap[r]? = some cell) : t.heap[r]? = some cell := by
  obtain ⟨c', h1, h2, h3, h4⟩ := h.2.2.2.2.2 r cell hr
  have e : c'.slots = cell.slots := by
    apply Array.ext h3
    intro i hi hi2
    have := h4 i (by simp)
    rw [Array.getElem?_eq_getElem hi, Array.getElem?_eq_getElem hi2] at this
    exact Option.some.inj this
  rw [h1, h2, e]
theorem mx_same_base {s t : State} {F : List Frame} {L : List Loc} {k n : Nat} (h : (s.setFrames F).sameButNew t L k n) : s.sameButNew t L k n := by
  obtain ⟨h1, h2⟩ := h
  refine ⟨?_, h2⟩
  rw [State.setFrames_setFrames] at h1
  exact h1
section MXT
variable {p : Program} {l : Launch} {e : Env} {R : Room} {s : State} {m : MethodId} {args : Array Value} {below : List Frame} {meth : Method} {c : Code} {Tt : State} {locs : List Loc}
/-- the same place, reckoned from the heap as it stands now -/
theorem mx_rebase (X : Stand p l e R s m args below meth c Tt locs 0 0) : Stand p l e R (Tt.setFrames (.invoking m args :: below)) m args below meth c Tt [] 0 0 := by
  obtain ⟨g₀, hfr⟩ := X.frames_eq
  have hcur : Tt.cur < Tt.threads.size := State.cur_lt_of_frames hfr
  have hf : (Tt.setFrames (.invoking m args :: below)).frames = .invoking m args :: below := State.frames_setFrames _ hcur
  have hm' : (Tt.setFrames (.invoking m args :: below)).vm.method? m = some meth := X.method'
  obtain ⟨th, hth, -⟩ := State.frames_cons hfr
  refine ⟨X.admits, X.cas, X.clock, hf, ?_, ?_, hm', X.code, X.here, X.tail, State.WarmedH.refl (Tt.setFrames (.invoking m args :: below)), ?_, ?_, ?_⟩
  · have hr := X.room
    have l1 := State.localsInUse_invoking X.frames X.method X.code
    have l2 := State.localsInUse_invoking hf hm' X.code
    have l3 : (Tt.setFrames (.invoking m args :: below)).localsInUse = s.localsInUse := by rw [l1, l2]
    have l4 : e.platform.stackLimits (Tt.setFrames (.invoking m args :: below)).me = e.platform.stackLimits s.me := by rw [State.stackLimits_setFrames]; exact X.limits
    have l5 : (Tt.setFrames (.invoking m args :: below)).me.stackBytes = s.me.stackBytes := by rw [State.stackBytes_setFrames]; exact X.bytes
    have l6 : (Tt.setFrames (.invoking m args :: below)).slotsTrue = true := X.book
    have l7 : (Tt.setFrames (.invoking m args :: below)).heap.size ≤ s.heap.size + 0 := X.heapSize
    have l8 : (Tt.setFrames (.invoking m args :: below)).slotsUsed ≤ s.slotsUsed + 0 := X.used
    simp only [State.hasRoom, Bool.and_eq_true, decide_eq_true_eq] at hr ⊢
    rw [l3, l4, l5, hf, l6]
    rw [X.frames] at hr
    obtain ⟨⟨⟨⟨r1, r2⟩, r3⟩, r4⟩, r5⟩ := hr
    exact ⟨⟨⟨⟨r1, r2⟩, by omega⟩, by omega⟩, rfl⟩
  · have hh := X.hears
    have e1 : ∀ mm, (Tt.setFrames (.invoking m args :: below)).code? mm = s.code? mm := fun mm => by
      rw [State.code?_eq, State.code?_eq]
      show (Tt.vm.method? mm).bind _ = _
      rw [X.warmed.alike.method?]
    cases below with
    | nil =>
      have e2 : (Tt.setFrames (.invoking m args :: [])).vm.method? m = s.vm.method? m := X.warmed.alike.method? m
      simp only [State.hears] at hh ⊢
      rw [e2]
      exact hh
    | cons f fs =>
      cases f <;> first
        | (simp only [State.hears] at hh ⊢; rw [e1]; exact hh)
        | (simp only [State.hears]; done)
        | (simp only [State.hears] at hh ⊢
           rw [show (Tt.setFrames _).vm.method? m = s.vm.method? m from X.warmed.alike.method? m]
           exact hh)
  · rw [State.stackLimits_setFrames]
  · rw [State.stackBytes_setFrames]
  · have hc2 : (Tt.setFrames (.invoking m args :: below)).cur < (Tt.setFrames (.invoking m args :: below)).threads.size := State.cur_lt_of_frames hf
    obtain ⟨th2, hth2, -⟩ := State.frames_cons hf
    have h := (State.sameButNew.refl (Tt.setFrames (.invoking m args :: below)) hth2).setFrames Tt.frames hc2
    rw [State.setFrames_setFrames, State.setFrames_self hth] at h
    exact h
end MXT
section MXU
variable {T : List Cond} {cl : List vw_C} {J : mx_J} {R : Room} {k : Nat} {ls : List Value} {hp : List va_E} {Q : mx_O → List va_E → Prop}
set_option maxHeartbeats 2000000 in
theorem mx_throw {idx ic : Nat} {st : List Value} (X : Nat) (hd0 : decode J.2.1 k = .ok (.new idx, 3)) (hd3 : decode J.2.1 (k + 3) = .ok (.dup, 1)) (hd4 : decode J.2.1 (k + 3 + 1) = .ok (.invokespecial ic, 3)) (hd7 : decode J.2.1 (k + 3 + 1 + 3) = .ok (.athrow, 1))
    (hG : mx_G T) (w1 : Cond.classLink J.1.cls idx (mx_xn X) ∈ T) (w2 : Cond.instantiable (mx_xn X) 6 ∈ T) (w3 : Cond.initialized (mx_xn X) ∈ T) (hfit : Bundle.fit (mx_xn X) = true)
    (hat : ∀ a ∈ Bundle.ownAtoms0 J.1.cls ic (mx_xn X) mx_up, a ∈ T ∨ a = .isRef (.static "java/lang/Throwable" "UNASSIGNED_STACK" "[Ljava/lang/StackTraceElement;") ∨ a = .isRef (.static "java/lang/Throwable" "SUPPRESSED_SENTINEL" "Ljava/util/List;"))
    (hRf : 5 < R.frames) (hRl : (st.map fun v => v.category).sum + 81 ≤ R.locals) (hRc : 1 ≤ R.cells) (hRs : 6 ≤ R.slots) (hQ : Q (.inr X) hp) : mx_W mx_K T cl J R k ls st hp Q := by
  intro l p e s m args below meth c D dT q A H locs lsA hC hl hP hD hS
  have hw := hC.2.2.2.2.2.1
  have hlocks : meth.locks = false := hC.2.2.2.2.2.2.2.1
  have hout : ∀ (pc : Nat), ∀ x ∈ c.exceptionTable.toList, covers x pc = false := fun pc x hx => by
    have h0 := hC.2.2.2.2.2.2.2.2.2.2.2
    rw [Array.isEmpty_iff.mp h0] at hx
    cases hx
  intro Tt hT Xs
  have hWm : s.WarmedH Tt.vm := Xs.warmed
  have hb' : (Tt.setFrames (.invoking m args :: below)).heap = H := hT
  have hkeep : ∀ (a : Nat) (cell : Cell), s.heap[a]? = some cell → cell.vm.isStatics = true → (Tt.setFrames (.invoking m args :: below)).heap[a]? = some cell := fun a cell h1 h2 => by
    rw [hb', hS.2.1 a (Array.getElem?_eq_some_iff.mp h1).1 (fun hA => by have := hC.2.2.2.2.2.2.2.2.2.1 a hA cell h1; rw [h2] at this; cases this)]
    exact h1
  have hZ := mx_Z0_moved (U := Tt.setFrames (.invoking m args :: below)) hWm.alike hkeep hC.2.2.2.2.2.2.2.2.2.2.1
  have hw' : ∀ w ∈ T, w.before args (Tt.setFrames (.invoking m args :: below)) = true := fun w h => mx_warm (U := Tt.setFrames (.invoking m args :: below)) (hG w h) hWm (hw w h)
  have hown : (Tt.setFrames (.invoking m args :: below)).vm.findClass J.1.cls = some m.cls := by
    show Tt.vm.findClass _ = _
    rw [hWm.alike.findClass]
    exact hC.2.2.2.2.1
  have hfin : ∀ (n : String), (Tt.setFrames (.invoking m args :: below)).vm.findClass n = s.vm.findClass n := fun n => hWm.alike.findClass n none
  have hat' : ∀ a ∈ Bundle.ownAtoms0 J.1.cls ic (mx_xn X) mx_up, a.before args (Tt.setFrames (.invoking m args :: below)) = true := fun a ha => by
    rcases hat a ha with h | rfl | rfl
    · exact hw' a h
    · exact mx_Sf_isRef hZ.2.1
    · exact mx_Sf_isRef hZ.2.2
  have X' := mx_rebase Xs
  generalize hs' : Tt.setFrames (.invoking m args :: below) = s' at X' hw' hown hat' hb' hfin hZ
  have key : W p l e R s' m args below meth c H [] 0 0 (fun t => t.status = .running ∧ Ended t below (.threw H.size) ∧ s'.WarmedH t.vm ∧ s'.sameButNew ({ t with vm := s'.vm } : State) [] 1 6 ∧ ∃ ce, t.heap[H.size]? = some ce ∧ Bundle.OwnCell args s' (mx_xn X) H.size .null ce) (F0 m k lsA (st.map (mx_v q))) := by
    refine W.newc hC.1 hC.2.1 hown (hw' _ w1) (hw' _ w2) (hw' _ w3) rfl hd0 (by omega) (by omega) (fun cX kX hfc hkX hord hsz => ?_)
    refine lv_dup (pc := k + 3) hC.1 hC.2.1 hd3 rfl ?_
    intro T2 hT2 X2
    obtain ⟨U, h1, h2, h3, h4, h5, ce, h6, h7⟩ := X2.ctorThrow0 hC.1 (hZ.1 e X2.admits) (own := J.1.cls) (cls := mx_xn X) (names := mx_up) (ic := ic) hown hfit (by decide +kernel) hat' (fun x hx => by cases hx) hfc hkX (a := H.size) (by rw [hT2]; exact Array.getElem?_push_size) (by rw [hb']; exact Nat.le_refl _) (g := F0 m (k + 3 + 1) lsA (.ref H.size :: .ref H.size :: st.map (mx_v q))) rfl (hl.1.trans hC.2.2.2.1.symm) rfl rfl rfl (by rw [hC.2.1]; exact hd4) (by rw [hC.2.1]; exact hd7) (hout _) hRf (by
        have e1 : ((st.map (mx_v q)).map fun v => v.category).sum = (st.map fun v => v.category).sum := by rw [List.map_map]; simp [Function.comp_def, mx_v_cat]
        show 2 * 0 + ((1 : Nat) + ((st.map (mx_v q)).map fun v => v.category).sum) + (13 * (2 + 1) + 41) ≤ R.locals
        rw [e1]
        omega) hlocks
    exact ⟨U, h1, h2, h3, h4, h5, ce, h6, h7⟩
  obtain ⟨t, a1, b1, b2, b3, b4, ce, b6, b7⟩ := key Tt hT X'
  have hold : ∀ r : Nat, r < H.size → t.heap[r]? = H[r]? := fun r hr => by
    have h1 : s'.heap[r]? = some H[r] := by rw [hb']; exact Array.getElem?_eq_getElem hr
    have h2 := mx_same_old b4 h1
    rw [Array.getElem?_eq_getElem hr]
    exact h2
  have hsz : H.size ≤ t.heap.size := by
    have h1 := b4.2.1
    rw [hb'] at h1
    exact h1
  refine ⟨t, a1, .threw H.size, .inr X, hp, b1, b2, hQ, hP.kept (fun j x hx => hold x.1 (hP j x hx).lt), hD, ⟨Nat.le_trans hS.1 hsz, fun r h1 h2 => ?_⟩, H.size, rfl, ⟨hS.1, ce, b6, ?_, b7.vm⟩, locs, ⟨⟨_, rfl⟩, ?_, ?_⟩, hS.2.2⟩
  · rw [hold r (Nat.lt_of_lt_of_le h1 hS.1)]
    exact hS.2.1 r h1 h2
  · rw [← hfin]
    exact b7.cls
  · refine State.WarmedH.trans hWm ?_
    rw [← hs'] at b3
    exact b3
  · rw [← hs'] at b4
    have h1 := mx_same_base b4
    have h2 := Xs.same.trans (h1.setVm s.vm)
    rw [List.append_nil] at h2
    exact h2
end MXU
end
section
/-! The engine, fourth part: a call whose callee throws: the caller throws the same. -/
def mx_QT (D : va_G) (cl : List vw_C) (dT : Nat → ClassId) (q : Nat → Nat) (A : Nat → Prop) (Q : mx_O → List va_E → Prop) : Array Value → State → Outcome → State → Prop := fun _ st o t =>
  ∃ (r : mx_O) (hp' : List va_E), Q r hp' ∧ va_P D cl (mx_w q dT hp') t.heap ∧ va_D A (mx_w q dT hp') ∧ va_F A st t ∧ mx_end q A mx_K st o r t
theorem mx_metT {T : List Cond} {cl : List vw_C} {J : mx_J} {R : Room} {hp : List va_E} {Q : mx_O → List va_E → Prop} {vs : List Value} (l : Launch) (D : va_G) (dT : Nat → ClassId) (q : Nat → Nat) (sz : Nat)
    (hy : plainName J.1.cls = true) (hc : mx_cat1 vs = true) (hlen : vs.length ≤ J.2.2.1) (hW : mx_W mx_K T cl J R 0 (mx_pad vs J.2.2.1) [] hp Q) :
    MetFree l J.1 (headSpec (Cond.code J.1 J.2.1 J.2.2.1 J.2.2.2 :: T) R) (mx_Pc l D cl dT q sz vs hp) (fun _ _ _ _ _ => True) (mx_QT D cl dT q (va_A (mx_w q dT hp) sz) Q) := by
  refine MetFree.of_bodyS (code := J.2.1) (maxLocals := J.2.2.1) (ret := J.2.2.2) hy ?_ ?_
  · intro args s m h hn
    obtain ⟨meth, c, h1, h2, h3, h4, h5, h6, -, -⟩ := Cond.code_spec hn (atoms_spec (ws := Cond.code J.1 J.2.1 J.2.2.1 J.2.2.2 :: T) h _ List.mem_cons_self)
    exact ⟨meth, c, h1, h2, h3, h4, h5, h6⟩
  · intro p e s m args below meth c s₁ B hml hv _
    obtain ⟨rfl, hsz, hP, hK, hD0, hZ0⟩ := hv
    subst hsz
    have hts := atoms_spec (ws := Cond.code J.1 J.2.1 J.2.2.1 J.2.2.2 :: T) B.pre
    have hh0 : s₁.heap = s.heap := by rw [B.state]; rfl
    obtain ⟨t, a1, o, r, hp', h1, h2, h3⟩ := hW l p e s m _ below meth c D dT q _ s.heap [] _ ⟨B.exec, B.bytes, B.returns, hml, findClass_of_methodNamed B.named, fun w hw => hts w (List.mem_cons_of_mem _ hw), hK, B.notSynchronized, fun r h => Or.inr h, mx_nostat hP, hZ0, B.noHandlers (hts _ List.mem_cons_self)⟩ (mx_entry hc hlen) hP hD0.self va_S.rf s₁ hh0 (Stand.of_body B)
    refine ⟨t, o, ?_, h1, h2, r, hp', h3⟩
    rw [lg_entry_eq]
    exact a1
def mx_rmT (R' R : Room) (nL : Nat) : Prop := R'.cells ≤ R.cells ∧ R'.slots ≤ R.slots ∧ R'.frames + 1 ≤ R.frames ∧ 8 + (nL + 11) + R'.locals ≤ R.locals
section MXV
variable {T : List Cond} {cl : List vw_C} {J : mx_J} {R : Room} {k : Nat} {ls : List Value} {hp : List va_E} {Q : mx_O → List va_E → Prop}
set_option maxHeartbeats 2000000 in
theorem mx_VT {J' : mx_J} {R' : Room} {idx n : Nat} {b ci : Nat} {fs : List Value} {r : vw_C} {st : List Value} {Qc : mx_O → List va_E → Prop} (as rest : List Value) (hd : decode J.2.1 k = .ok (.invokevirtual idx, 3)) (hst : st = as.reverse ++ .ref b :: rest) (hG : mx_G T) (hok : mx_ok T J' n) (hV : Cond.instanceMethod J'.1 ∈ T ∧ Cond.selects J'.1.cls J'.1 J'.1 ∈ T) (hlk : Cond.methodLink J.1.cls idx J'.1 ∈ T) (hRm : mx_rmT R' R J'.2.2.1) (hn : as.length = n) (hc1 : mx_cat1 (.ref b :: as) = true) (hle : (.ref b :: as).length ≤ J'.2.2.1) (hrest : (rest.map fun v => v.category).sum ≤ 8) (hb : hp[b]? = some (.inr (ci, fs))) (hci : cl[ci]? = some r) (hr : r.1 = J'.1.cls)
    (hW : mx_W mx_K T cl J' R' 0 (mx_pad (.ref b :: as) J'.2.2.1) [] hp Qc) (hQc : ∀ v hp', ¬ Qc (.inl v) hp') (next : ∀ X hp', Qc (.inr X) hp' → Q (.inr X) hp') : mx_W mx_K T cl J R k ls st hp Q := by
  subst hst
  intro l p e s m args below meth c D dT q A H locs lsA hC hl hP hD hS
  have hw := hC.2.2.2.2.2.1
  have hlocks : meth.locks = false := hC.2.2.2.2.2.2.2.1
  have hM := mx_metT l D dT q H.size hok.2.2.1 hc1 hle hW
  have hr8 : ((rest.map (mx_v q)).map fun v => v.category).sum ≤ 8 := by rw [List.map_map]; simpa [Function.comp_def, mx_v_cat] using hrest
  have hA : ∀ r, va_A (mx_w q dT hp) H.size r → A r := by
    intro r h
    rcases h with ⟨j, x, h⟩ | h
    · exact hD.2 j _ h
    · exact hC.2.2.2.2.2.2.2.2.1 r (Nat.le_trans hS.1 h)
  have hkeep : ∀ (U : State), U.heap = H → ∀ (a : Nat) (cell : Cell), s.heap[a]? = some cell → cell.vm.isStatics = true → U.heap[a]? = some cell := fun U hU a cell h1 h2 => by
    rw [hU, hS.2.1 a (Array.getElem?_eq_some_iff.mp h1).1 (fun hA => by have := hC.2.2.2.2.2.2.2.2.2.1 a hA cell h1; rw [h2] at this; cases this)]
    exact h1
  obtain ⟨cellB, hcB, hoB, hclB⟩ : ∃ cell : Cell, H[q b]? = some cell ∧ cell.vm.isStatics = false ∧ s.vm.findClass J'.1.cls = some cell.cls := by
    rw [← hr]
    exact va_recv hC.2.2.2.2.2.2.1 hP hci (mx_w_get hb)
  refine W.eq (g2 := F0 m k lsA ((as.map (mx_v q)).reverse ++ .ref (q b) :: rest.map (mx_v q))) (by simp [mx_v]) ?_
  intro Tt hT X
  have hy : J'.1.cls ≠ "java/lang/invoke/MethodHandle" ∧ J'.1.cls ≠ "java/lang/invoke/VarHandle" := ⟨hok.2.2.2.1, hok.2.2.2.2.1⟩
  obtain ⟨mk, methM, hnamed, hmethM, hstM, habM⟩ := Cond.instanceMethod_spec (hw _ hV.1)
  obtain ⟨methM', cM, hmethM', -, -, -, -, -, -, hsigM⟩ := Cond.code_spec hnamed (hw _ hok.1)
  cases hmethM.symm.trans hmethM'
  obtain ⟨c2, r2, m2, q1, q2, q3, q4, kP, hkP, hkPi⟩ := Cond.selects_spec (hw _ hV.2)
  cases hclB.symm.trans q1
  cases (State.methodFound?_of_named hnamed hy).symm.trans q2
  cases hnamed.symm.trans q3
  have hselP : selectMethod e.platform s.vm cellB.cls mk = .method mk := by rw [Launch.admits_selectMethod X.admits]; exact q4
  have hdg : decode c.code k = .ok (.invokevirtual idx, 3) := by rw [hC.2.1]; exact hd
  obtain ⟨vm₁, X₁, hstep₁⟩ := X.invokevirtual hC.1 hC.2.2.2.2.1 (hw _ hlk) hnamed hmethM hstM hkP hkPi hy (a := q b) (cell := cellB) (by rw [hT]; exact hcB)
    (fun z h => by rw [h] at hoB; cases hoB) hselP hmethM habM hkP hkPi (g := F0 m k lsA ((as.map (mx_v q)).reverse ++ .ref (q b) :: rest.map (mx_v q))) rfl (argsL := as.map (mx_v q)) (rest := rest.map (mx_v q)) (by rw [List.length_map, hn]; exact mx_par hok.2.2.2.2.2 _ hsigM) rfl hdg
  have hU : (Tt.setVm vm₁).heap = H := hT
  have hW1 : s.WarmedH (Tt.setVm vm₁).vm := X₁.warmed
  have hws := mx_hws hG hok hw
  have hsz : lsA.size = c.maxLocals := hl.1.trans hC.2.2.2.1.symm
  have happ : (headSpec (Cond.code J'.1 J'.2.1 J'.2.2.1 J'.2.2.2 :: T) R').appliesLoose J'.1 e.platform ((Tt.setVm vm₁).calling (F0 m k lsA (rest.map (mx_v q))) mk (Value.ref (q b) :: as.map (mx_v q)).toArray) = true :=
    X₁.appliesAt (S := headSpec (Cond.code J'.1 J'.2.1 J'.2.2.1 J'.2.2.2 :: T) R') (bytes := J'.2.1) (maxL := J'.2.2.1) (ret := J'.2.2.2) (g := F0 m k lsA (rest.map (mx_v q))) rfl hsz hdg (W := 8) (lv_room hr8) (X₁.named hnamed) (atoms_intro fun w h => hws w h _ _ hW1) (hws _ List.mem_cons_self _ _ hW1) (hws _ (List.mem_cons_of_mem _ hok.2.1) _ _ hW1) hRm.2.2.1 hRm.2.2.2 (by rw [Nat.zero_add]; exact hRm.1) (by rw [Nat.zero_add]; exact hRm.2.1)
  have h : At (Tt.setVm vm₁) m c below := X₁.here
  obtain ⟨mid, hmid⟩ := h.above
  have hfr : ((Tt.setVm vm₁).setTop (F0 m k lsA (rest.map (mx_v q)))).frames = (.java (F0 m k lsA (rest.map (mx_v q))) :: mid) ++ below := by rw [State.frames_setTop' _ h.top, hmid]; rfl
  have hPc : mx_Pc l D cl dT q H.size (.ref b :: as) hp (Value.ref (q b) :: as.map (mx_v q)).toArray ((Tt.setVm vm₁).calling (F0 m k lsA (rest.map (mx_v q))) mk (Value.ref (q b) :: as.map (mx_v q)).toArray) :=
    mx_blind l D cl dT q H.size (.ref b :: as) hp _ _ _ _ ⟨rfl, by rw [hU], by rw [hU]; exact hP, va_K.moved hW1.alike hC.2.2.2.2.2.2.1, hD.weaken (fun _ _ _ _ => trivial), mx_Z0_moved hW1.alike (hkeep _ hU) hC.2.2.2.2.2.2.2.2.2.2.1⟩
  obtain ⟨o, s₂, hsteps, -, hend, hq⟩ := Steps.callFree hM p X₁.admits X₁.cas X₁.clock (acts := []) hfr happ hPc trivial
  rw [State.frames_setTop' _ h.top] at hend
  obtain ⟨r, hp', hQ1, hP1, hD1, hF1, hE⟩ := hq
  cases r with
  | inl v => exact absurd hQ1 (hQc v hp')
  | inr Xk =>
    obtain ⟨a, rfl, hKa, L, ⟨-, hW₂, e2, g2, g3, g4, g5, g6⟩, hL⟩ := hE
    have e2' : ({ s₂ with vm := (Tt.setVm vm₁).vm } : State) = { ((Tt.setVm vm₁).calling (F0 m k lsA (rest.map (mx_v q))) mk (Value.ref (q b) :: as.map (mx_v q)).toArray).setFrames s₂.frames with heap := s₂.heap, slotsUsed := s₂.slotsUsed } := e2
    have hW2' : (Tt.setVm vm₁).WarmedH s₂.vm := hW₂
    have hf₂ : s₂.frames = .throwing a :: .java (F0 m k lsA (rest.map (mx_v q))) :: (Tt.setVm vm₁).frames.tail := hend
    obtain ⟨g₀, hg0⟩ := Option.isSome_iff_exists.mp h.top
    obtain ⟨rr, hrr⟩ := State.topJava?_eq_some.mp hg0
    have hs₂ : s₂ = ((({ (Tt.setVm vm₁) with heap := s₂.heap, slotsUsed := s₂.slotsUsed } : State).setVm s₂.vm).setTop (F0 m k lsA (rest.map (mx_v q)))).pushFrame (.throwing a) := by
      have hr' : (({ (Tt.setVm vm₁) with heap := s₂.heap, slotsUsed := s₂.slotsUsed } : State).setVm s₂.vm).frames = .java g₀ :: rr := hrr
      have e3 : s₂ = ({ s₂ with vm := (Tt.setVm vm₁).vm } : State).setVm s₂.vm := rfl
      refine e3.trans ?_
      rw [e2', hf₂, State.calling_eq h.top, State.setFrames_setFrames, State.pushFrame, State.frames_setTop _ hr', State.setTop_of_frames _ hr', State.setFrames_setFrames, hrr]
      rfl
    have hsame : (Tt.setVm vm₁).sameButNew ({ (Tt.setVm vm₁) with heap := s₂.heap, slotsUsed := s₂.slotsUsed } : State) L 1 6 := by
      refine ⟨?_, g2, g3, g4, g5, g6⟩
      obtain ⟨th, hth, -⟩ := State.frames_cons hrr
      show ({ (Tt.setVm vm₁) with heap := s₂.heap, slotsUsed := s₂.slotsUsed } : State) = { (Tt.setVm vm₁).setFrames (Tt.setVm vm₁).frames with heap := s₂.heap, slotsUsed := s₂.slotsUsed }
      rw [State.setFrames_self hth]
    have X₂ : Stand p l e R s m args below meth c (({ (Tt.setVm vm₁) with heap := s₂.heap, slotsUsed := s₂.slotsUsed } : State).setVm s₂.vm) (locs ++ L) (0 + 1) (0 + 6) :=
      ⟨X₁.admits, X₁.cas, X₁.clock, X₁.frames, X₁.room, X₁.hears, X₁.method, X₁.code, (X₁.here.setHeapUsed s₂.heap s₂.slotsUsed).setVm hW2'.alike, X₁.tail, State.WarmedH.trans X₁.warmed hW2', X₁.limits, X₁.bytes, X₁.same.trans (hsame.setVm s.vm)⟩
    obtain ⟨b1, b2, b3, b4, b5⟩ := X₂.leaveThrown a (g := F0 m k lsA (rest.map (mx_v q))) rfl rfl rfl (fun x hx => by
      have h0 := hC.2.2.2.2.2.2.2.2.2.2.2
      rw [Array.isEmpty_iff.mp h0] at hx
      cases hx) hlocks
    rw [← hs₂] at b1
    obtain ⟨hz, hk⟩ := hF1
    have hz : H.size ≤ s₂.heap.size := by rw [← hU]; exact hz
    have hk : ∀ r : Nat, r < H.size → ¬ va_A (mx_w q dT hp) H.size r → s₂.heap[r]? = H[r]? := fun r h1 h2 => by
      have := hk r (by show r < (Tt.setVm vm₁).heap.size; rw [hU]; exact h1) h2
      rw [this]
      show (Tt.setVm vm₁).heap[r]? = _
      rw [hU]
    refine ⟨_, hstep₁ _ (fun acts => by rw [doInvoke_state]; exact hsteps.trans b1), .threw a, .inr Xk, hp', b2, b3, next Xk hp' hQ1, hP1, hD1.weaken (fun _ y _ h => hA y.1 h), ⟨Nat.le_trans hS.1 hz, fun r h1 h2 => ?_⟩, a, rfl, ?_, locs ++ L, ⟨⟨_, rfl⟩, b4, b5⟩, fun x hx => ?_⟩
    · show s₂.heap[r]? = _
      rw [hk r (Nat.lt_of_lt_of_le h1 hS.1) (fun z => h2 (hA r z))]
      exact hS.2.1 r h1 h2
    · obtain ⟨k1, ce, k2, k3, k4⟩ := hKa
      refine ⟨Nat.le_trans hS.1 ?_, ce, k2, ?_, k4⟩
      · rw [← hU]; exact k1
      · have : s.vm.findClass (mx_xn Xk) = (Tt.setVm vm₁).vm.findClass (mx_xn Xk) := (hW1.alike.findClass _ none).symm
        rw [this]
        exact k3
    · rcases List.mem_append.mp hx with h | h
      · exact hS.2.2 x h
      · exact hA _ (hL x h)
end MXV
theorem mx_bad : (1 : Nat) = 2 := rfl
end
