/-! The engine, fifth part: a walk that makes cells, that has handlers, that reads the script: mx_B. -/
abbrev mx_ZT : Type := va_G → (Nat → ClassId) → (Nat → Nat) → (Nat → Prop) → List Frame → Array Value → State → State → Prop
/-- the script, at number 1000 -/
def mx_X (X : Option (Nat × (Nat → Int32))) (q : Nat → Nat) (A : Nat → Prop) (s : State) (args : Array Value) : Prop := match X with
  | none => True
  | some (L, xs) => va_X (q 1000) L xs s s.heap ∧ q 1000 < s.heap.size ∧ ¬ A (q 1000) ∧ (∀ r, A r → s.heap.size ≤ r) ∧ args = #[.ref (q 1000)]
def mx_D (T : List Cond) (cl : List vw_C) (J : mx_J) (tb : List ExceptionTableEntry) (X : Option (Nat × (Nat → Int32))) (l : Launch) (p : Program) (s : State) (m : MethodId) (args : Array Value) (meth : Method) (c : Code) (D : va_G) (dT : Nat → ClassId) (A : Nat → Prop) (q : Nat → Nat) : Prop :=
  p.tables.exec = Jvm.exec ∧ c.code = J.2.1 ∧ meth.sig.returnType = J.2.2.2 ∧ c.maxLocals = J.2.2.1 ∧ s.vm.findClass J.1.cls = some m.cls ∧ (∀ w ∈ T, w.before args s = true) ∧ va_K D cl (mx_tys dT) s ∧ meth.locks = false ∧ (∀ r : Nat, s.heap.size ≤ r → A r) ∧ (∀ r : Nat, A r → ∀ cell : Cell, s.heap[r]? = some cell → cell.vm.isStatics = false) ∧ mx_Z0 l s ∧ (J.1.name = "<init>" → meth.name = "<init>") ∧ (tb ≠ [] → c.exceptionTable.toList = tb) ∧ mx_X X q A s args
/-- cells to come have consecutive addresses from the heap's end -/
def mx_q (qi : Bool) (q : Nat → Nat) (hp : List va_E) (H : Heap) : Prop := qi = true → ∀ j : Nat, hp.length ≤ j → j < 1000 → q j = H.size + (j - hp.length)
/-- THE JUDGEMENT with n9 cells of z9 slots made so far; qi: more cells are to come -/
def mx_B (T : List Cond) (cl : List vw_C) (J : mx_J) (R : Room) (tb : List ExceptionTableEntry) (X : Option (Nat × (Nat → Int32))) (Z : mx_ZT) (qi : Bool) (n9 z9 k : Nat) (ls st : List Value) (hp : List va_E) : Prop :=
  ∀ (l : Launch) (p : Program) (e : Env) (s : State) (m : MethodId) (args : Array Value) (below : List Frame) (meth : Method) (c : Code) (D : va_G) (dT : Nat → ClassId) (q : Nat → Nat) (A : Nat → Prop) (H : Heap) (locs : List Loc) (lsA : Array Slot),
    mx_D T cl J tb X l p s m args meth c D dT A q → lv_has lsA J.2.2.1 (mx_l q ls) → mx_q qi q hp H → va_P D cl (mx_w q dT hp) H → va_D A (mx_w q dT hp) → va_S A s.heap H locs →
    W p l e R s m args below meth c H locs n9 z9 (Z D dT q A below args s) (F0 m k lsA (st.map (mx_v q)))
theorem mx_w_push (q : Nat → Nat) (dT : Nat → ClassId) (hp : List va_E) (x : va_E) : mx_w q dT (hp ++ [x]) = mx_w q dT hp ++ [(q hp.length, mx_e q dT x)] := by
  simp [mx_w, List.mapIdx_append]
section MB
variable {T : List Cond} {cl : List vw_C} {J : mx_J} {R : Room} {tb : List ExceptionTableEntry} {X : Option (Nat × (Nat → Int32))} {Z : mx_ZT} {qi : Bool} {n9 z9 k : Nat} {ls rest : List Value} {hp : List va_E}
theorem mb_eqs {k' : Nat} {ls' st st' : List Value} {hp' : List va_E} (h1 : k = k') (h2 : ls = ls') (h3 : st = st') (h4 : hp = hp') (kk : mx_B T cl J R tb X Z qi n9 z9 k' ls' st' hp') : mx_B T cl J R tb X Z qi n9 z9 k ls st hp := by
  subst h1; subst h2; subst h3; subst h4; exact kk
theorem mb_drop (i : Nat) {st : List Value} (kk : mx_B T cl J R tb X Z qi n9 z9 k (ls.set i (.retAddr 0)) st hp) : mx_B T cl J R tb X Z qi n9 z9 k ls st hp := by
  intro l p e s m args below meth c D dT q A H locs lsA hC hl hq hP hD hS
  refine kk l p e s m args below meth c D dT q A H locs lsA hC (mx_has_mono hl (fun x hx => ?_)) hq hP hD hS
  obtain ⟨v, h1, h2, h3⟩ := mx_l_mem.mp hx
  refine mx_l_mem.mpr ⟨v, ?_, h2, h3⟩
  rw [List.getElem?_set] at h1
  split at h1
  · split at h1
    · exact absurd (Option.some.inj h1).symm (h2 0)
    · cases h1
  · exact h1
theorem mb_widen {st : List Value} {n z : Nat} (h1 : n9 ≤ n) (h2 : z9 ≤ z) (kk : mx_B T cl J R tb X Z qi n z k ls st hp) : mx_B T cl J R tb X Z qi n9 z9 k ls st hp := by
  intro l p e s m args below meth c D dT q A H locs lsA hC hl hq hP hD hS
  exact W.widen h1 h2 (kk l p e s m args below meth c D dT q A H locs lsA hC hl hq hP hD hS)
theorem mb_iconst {n : Int} (x : Int32) (hd : decode J.2.1 k = .ok (.iconst n, 1)) (hv : Int32.ofInt n = x)
    (kk : mx_B T cl J R tb X Z qi n9 z9 (k + 1) ls (.int x :: rest) hp) : mx_B T cl J R tb X Z qi n9 z9 k ls (rest) hp := by
  intro l p e s m args below meth c D dT q A H locs lsA hC hl hq hP hD hS
  exact lv_iconst hC.1 hC.2.1 hd hv (kk l p e s m args below meth c D dT q A H locs lsA hC hl hq hP hD hS)
theorem mb_bipush {n : Int} (x : Int32) (hd : decode J.2.1 k = .ok (.bipush n, 2)) (hv : (Int8.ofInt n).toInt32 = x)
    (kk : mx_B T cl J R tb X Z qi n9 z9 (k + 2) ls (.int x :: rest) hp) : mx_B T cl J R tb X Z qi n9 z9 k ls (rest) hp := by
  intro l p e s m args below meth c D dT q A H locs lsA hC hl hq hP hD hS
  exact lv_bipush hC.1 hC.2.1 hd hv (kk l p e s m args below meth c D dT q A H locs lsA hC hl hq hP hD hS)
theorem mb_sipush {n : Int} (x : Int32) (hd : decode J.2.1 k = .ok (.sipush n, 3)) (hv : (Int16.ofInt n).toInt32 = x)
    (kk : mx_B T cl J R tb X Z qi n9 z9 (k + 3) ls (.int x :: rest) hp) : mx_B T cl J R tb X Z qi n9 z9 k ls (rest) hp := by
  intro l p e s m args below meth c D dT q A H locs lsA hC hl hq hP hD hS
  exact lv_sipush hC.1 hC.2.1 hd hv (kk l p e s m args below meth c D dT q A H locs lsA hC hl hq hP hD hS)
theorem mb_iload_n {n : Fin 4} {x : Int32} (hd : decode J.2.1 k = .ok (.iload_n n, 1)) (hi : ls[(n : Nat)]? = some (.int x))
    (kk : mx_B T cl J R tb X Z qi n9 z9 (k + 1) ls (.int x :: rest) hp) : mx_B T cl J R tb X Z qi n9 z9 k ls rest hp := by
  intro l p e s m args below meth c D dT q A H locs lsA hC hl hq hP hD hS
  exact lv_iload_n hC.1 hC.2.1 hd rfl (mx_at hl hi (fun _ => by simp)) (kk l p e s m args below meth c D dT q A H locs lsA hC hl hq hP hD hS)
theorem mb_iload {i : Nat} {x : Int32} (hd : decode J.2.1 k = .ok (.iload i, 2)) (hi : ls[i]? = some (.int x))
    (kk : mx_B T cl J R tb X Z qi n9 z9 (k + 2) ls (.int x :: rest) hp) : mx_B T cl J R tb X Z qi n9 z9 k ls rest hp := by
  intro l p e s m args below meth c D dT q A H locs lsA hC hl hq hP hD hS
  exact lv_iload hC.1 hC.2.1 hd (mx_at hl hi (fun _ => by simp)) (kk l p e s m args below meth c D dT q A H locs lsA hC hl hq hP hD hS)
theorem mb_aload_n {n : Fin 4} {x : Nat} (hd : decode J.2.1 k = .ok (.aload_n n, 1)) (hi : ls[(n : Nat)]? = some (.ref x))
    (kk : mx_B T cl J R tb X Z qi n9 z9 (k + 1) ls (.ref x :: rest) hp) : mx_B T cl J R tb X Z qi n9 z9 k ls rest hp := by
  intro l p e s m args below meth c D dT q A H locs lsA hC hl hq hP hD hS
  exact lv_aload_n hC.1 hC.2.1 hd rfl (mx_at hl hi (fun _ => by simp)) (kk l p e s m args below meth c D dT q A H locs lsA hC hl hq hP hD hS)
theorem mb_aload {i : Nat} {x : Nat} (hd : decode J.2.1 k = .ok (.aload i, 2)) (hi : ls[i]? = some (.ref x))
    (kk : mx_B T cl J R tb X Z qi n9 z9 (k + 2) ls (.ref x :: rest) hp) : mx_B T cl J R tb X Z qi n9 z9 k ls rest hp := by
  intro l p e s m args below meth c D dT q A H locs lsA hC hl hq hP hD hS
  exact lv_aload hC.1 hC.2.1 hd (mx_at hl hi (fun _ => by simp)) (kk l p e s m args below meth c D dT q A H locs lsA hC hl hq hP hD hS)
theorem mb_istore_n {n : Fin 4} {x : Int32} (hd : decode J.2.1 k = .ok (.istore_n n, 1)) (hn : (n : Nat) < J.2.2.1) (hc : mx_cat1 ls = true)
    (kk : mx_B T cl J R tb X Z qi n9 z9 (k + 1) (ls.set (n : Nat) (.int x)) rest hp) : mx_B T cl J R tb X Z qi n9 z9 k ls (.int x :: rest) hp := by
  intro l p e s m args below meth c D dT q A H locs lsA hC hl hq hP hD hS
  exact lv_istore_n hC.1 hC.2.1 hd rfl hl hn rfl (fun lsB hB => kk l p e s m args below meth c D dT q A H locs lsB hC (mx_has_mono hB (mx_st1 (v := .int x) hc)) hq hP hD hS)
theorem mb_istore {i : Nat} {x : Int32} (hd : decode J.2.1 k = .ok (.istore i, 2)) (hn : i < J.2.2.1) (hc : mx_cat1 ls = true)
    (kk : mx_B T cl J R tb X Z qi n9 z9 (k + 2) (ls.set i (.int x)) rest hp) : mx_B T cl J R tb X Z qi n9 z9 k ls (.int x :: rest) hp := by
  intro l p e s m args below meth c D dT q A H locs lsA hC hl hq hP hD hS
  exact lv_istore hC.1 hC.2.1 hd hl hn rfl (fun lsB hB => kk l p e s m args below meth c D dT q A H locs lsB hC (mx_has_mono hB (mx_st1 (v := .int x) hc)) hq hP hD hS)
theorem mb_astore_n {n : Fin 4} {x : Nat} (hd : decode J.2.1 k = .ok (.astore_n n, 1)) (hn : (n : Nat) < J.2.2.1) (hc : mx_cat1 ls = true)
    (kk : mx_B T cl J R tb X Z qi n9 z9 (k + 1) (ls.set (n : Nat) (.ref x)) rest hp) : mx_B T cl J R tb X Z qi n9 z9 k ls (.ref x :: rest) hp := by
  intro l p e s m args below meth c D dT q A H locs lsA hC hl hq hP hD hS
  exact lv_astore_n hC.1 hC.2.1 hd rfl hl hn rfl (fun lsB hB => kk l p e s m args below meth c D dT q A H locs lsB hC (mx_has_mono hB (mx_st1 (v := .ref x) hc)) hq hP hD hS)
theorem mb_astore {i : Nat} {x : Nat} (hd : decode J.2.1 k = .ok (.astore i, 2)) (hn : i < J.2.2.1) (hc : mx_cat1 ls = true)
    (kk : mx_B T cl J R tb X Z qi n9 z9 (k + 2) (ls.set i (.ref x)) rest hp) : mx_B T cl J R tb X Z qi n9 z9 k ls (.ref x :: rest) hp := by
  intro l p e s m args below meth c D dT q A H locs lsA hC hl hq hP hD hS
  exact lv_astore hC.1 hC.2.1 hd hl hn rfl (fun lsB hB => kk l p e s m args below meth c D dT q A H locs lsB hC (mx_has_mono hB (mx_st1 (v := .ref x) hc)) hq hP hD hS)
theorem mb_iinc {i : Nat} {n : Int} {x y : Int32} (hd : decode J.2.1 k = .ok (.iinc i n, 3)) (hi : ls[i]? = some (.int x)) (hv : x + Int32.ofInt n = y) (hn : i < J.2.2.1) (hc : mx_cat1 ls = true)
    (kk : mx_B T cl J R tb X Z qi n9 z9 (k + 3) (ls.set i (.int y)) rest hp) : mx_B T cl J R tb X Z qi n9 z9 k ls rest hp := by
  intro l p e s m args below meth c D dT q A H locs lsA hC hl hq hP hD hS
  obtain ⟨j, hj⟩ := List.getElem?_of_mem (mx_l_mem (q := q).mpr ⟨_, hi, (fun _ => by simp), rfl⟩ : (i, Value.int x) ∈ mx_l q ls)
  exact lv_iinc hC.1 hC.2.1 hd hl hj hv hn rfl (fun lsB hB => kk l p e s m args below meth c D dT q A H locs lsB hC (mx_has_mono hB (mx_st1 (v := .int y) hc)) hq hP hD hS)
theorem mb_iadd {x y : Int32} (hd : decode J.2.1 k = .ok (.iadd, 1)) 
    (kk : mx_B T cl J R tb X Z qi n9 z9 (k + 1) ls (.int (x + y) :: rest) hp) : mx_B T cl J R tb X Z qi n9 z9 k ls (.int y :: .int x :: rest) hp := by
  intro l p e s m args below meth c D dT q A H locs lsA hC hl hq hP hD hS
  exact lv_iadd hC.1 hC.2.1 hd  (kk l p e s m args below meth c D dT q A H locs lsA hC hl hq hP hD hS)
theorem mb_isub {x y : Int32} (hd : decode J.2.1 k = .ok (.isub, 1)) 
    (kk : mx_B T cl J R tb X Z qi n9 z9 (k + 1) ls (.int (x - y) :: rest) hp) : mx_B T cl J R tb X Z qi n9 z9 k ls (.int y :: .int x :: rest) hp := by
  intro l p e s m args below meth c D dT q A H locs lsA hC hl hq hP hD hS
  exact lv_isub hC.1 hC.2.1 hd  (kk l p e s m args below meth c D dT q A H locs lsA hC hl hq hP hD hS)
theorem mb_iand {x y : Int32} (hd : decode J.2.1 k = .ok (.iand, 1)) 
    (kk : mx_B T cl J R tb X Z qi n9 z9 (k + 1) ls (.int (x &&& y) :: rest) hp) : mx_B T cl J R tb X Z qi n9 z9 k ls (.int y :: .int x :: rest) hp := by
  intro l p e s m args below meth c D dT q A H locs lsA hC hl hq hP hD hS
  exact lv_iand hC.1 hC.2.1 hd  (kk l p e s m args below meth c D dT q A H locs lsA hC hl hq hP hD hS)
theorem mb_i2l {x : Int32} {y : Int64} (hd : decode J.2.1 k = .ok (.i2l, 1)) (hv : x.toInt64 = y)
    (kk : mx_B T cl J R tb X Z qi n9 z9 (k + 1) ls (.long y :: rest) hp) : mx_B T cl J R tb X Z qi n9 z9 k ls (.int x :: rest) hp := by
  intro l p e s m args below meth c D dT q A H locs lsA hC hl hq hP hD hS
  exact lv_i2l hC.1 hC.2.1 hd hv (kk l p e s m args below meth c D dT q A H locs lsA hC hl hq hP hD hS)
theorem mb_dup {v : Value} (hd : decode J.2.1 k = .ok (.dup, 1)) (hv : v.category = 1)
    (kk : mx_B T cl J R tb X Z qi n9 z9 (k + 1) ls (v :: v :: rest) hp) : mx_B T cl J R tb X Z qi n9 z9 k ls (v :: rest) hp := by
  intro l p e s m args below meth c D dT q A H locs lsA hC hl hq hP hD hS
  exact lv_dup hC.1 hC.2.1 hd ((mx_v_cat q v).trans hv) (kk l p e s m args below meth c D dT q A H locs lsA hC hl hq hP hD hS)
theorem mb_if_eq {x : Int32} {off : Int} (tgt : Nat) (hd : decode J.2.1 k = .ok (.ifCond .eq off, 3)) (ht : (k : Int) + off = (tgt : Int))
    (kt : x = 0 → mx_B T cl J R tb X Z qi n9 z9 tgt ls rest hp) (kf : ¬ x = 0 → mx_B T cl J R tb X Z qi n9 z9 (k + 3) ls rest hp) : mx_B T cl J R tb X Z qi n9 z9 k ls (.int x :: rest) hp := by
  intro l p e s m args below meth c D dT q A H locs lsA hC hl hq hP hD hS
  exact lv_if_eq hC.1 hC.2.1 hd ht (fun h9 => kt h9 l p e s m args below meth c D dT q A H locs lsA hC hl hq hP hD hS) (fun h9 => kf h9 l p e s m args below meth c D dT q A H locs lsA hC hl hq hP hD hS)
theorem mb_icmp_eq {x y : Int32} {off : Int} (tgt : Nat) (hd : decode J.2.1 k = .ok (.if_icmp .eq off, 3)) (ht : (k : Int) + off = (tgt : Int))
    (kt : x = y → mx_B T cl J R tb X Z qi n9 z9 tgt ls rest hp) (kf : ¬ x = y → mx_B T cl J R tb X Z qi n9 z9 (k + 3) ls rest hp) : mx_B T cl J R tb X Z qi n9 z9 k ls (.int y :: .int x :: rest) hp := by
  intro l p e s m args below meth c D dT q A H locs lsA hC hl hq hP hD hS
  exact lv_icmp_eq hC.1 hC.2.1 hd ht (fun h9 => kt h9 l p e s m args below meth c D dT q A H locs lsA hC hl hq hP hD hS) (fun h9 => kf h9 l p e s m args below meth c D dT q A H locs lsA hC hl hq hP hD hS)
theorem mb_if_ne {x : Int32} {off : Int} (tgt : Nat) (hd : decode J.2.1 k = .ok (.ifCond .ne off, 3)) (ht : (k : Int) + off = (tgt : Int))
    (kt : ¬ x = 0 → mx_B T cl J R tb X Z qi n9 z9 tgt ls rest hp) (kf : x = 0 → mx_B T cl J R tb X Z qi n9 z9 (k + 3) ls rest hp) : mx_B T cl J R tb X Z qi n9 z9 k ls (.int x :: rest) hp := by
  intro l p e s m args below meth c D dT q A H locs lsA hC hl hq hP hD hS
  exact lv_if_ne hC.1 hC.2.1 hd ht (fun h9 => kt h9 l p e s m args below meth c D dT q A H locs lsA hC hl hq hP hD hS) (fun h9 => kf h9 l p e s m args below meth c D dT q A H locs lsA hC hl hq hP hD hS)
theorem mb_icmp_ne {x y : Int32} {off : Int} (tgt : Nat) (hd : decode J.2.1 k = .ok (.if_icmp .ne off, 3)) (ht : (k : Int) + off = (tgt : Int))
    (kt : ¬ x = y → mx_B T cl J R tb X Z qi n9 z9 tgt ls rest hp) (kf : x = y → mx_B T cl J R tb X Z qi n9 z9 (k + 3) ls rest hp) : mx_B T cl J R tb X Z qi n9 z9 k ls (.int y :: .int x :: rest) hp := by
  intro l p e s m args below meth c D dT q A H locs lsA hC hl hq hP hD hS
  exact lv_icmp_ne hC.1 hC.2.1 hd ht (fun h9 => kt h9 l p e s m args below meth c D dT q A H locs lsA hC hl hq hP hD hS) (fun h9 => kf h9 l p e s m args below meth c D dT q A H locs lsA hC hl hq hP hD hS)
theorem mb_if_lt {x : Int32} {off : Int} (tgt : Nat) (hd : decode J.2.1 k = .ok (.ifCond .lt off, 3)) (ht : (k : Int) + off = (tgt : Int))
    (kt : x < 0 → mx_B T cl J R tb X Z qi n9 z9 tgt ls rest hp) (kf : ¬ x < 0 → mx_B T cl J R tb X Z qi n9 z9 (k + 3) ls rest hp) : mx_B T cl J R tb X Z qi n9 z9 k ls (.int x :: rest) hp := by
  intro l p e s m args below meth c D dT q A H locs lsA hC hl hq hP hD hS
  exact lv_if_lt hC.1 hC.2.1 hd ht (fun h9 => kt h9 l p e s m args below meth c D dT q A H locs lsA hC hl hq hP hD hS) (fun h9 => kf h9 l p e s m args below meth c D dT q A H locs lsA hC hl hq hP hD hS)
theorem mb_icmp_lt {x y : Int32} {off : Int} (tgt : Nat) (hd : decode J.2.1 k = .ok (.if_icmp .lt off, 3)) (ht : (k : Int) + off = (tgt : Int))
    (kt : x < y → mx_B T cl J R tb X Z qi n9 z9 tgt ls rest hp) (kf : ¬ x < y → mx_B T cl J R tb X Z qi n9 z9 (k + 3) ls rest hp) : mx_B T cl J R tb X Z qi n9 z9 k ls (.int y :: .int x :: rest) hp := by
  intro l p e s m args below meth c D dT q A H locs lsA hC hl hq hP hD hS
  exact lv_icmp_lt hC.1 hC.2.1 hd ht (fun h9 => kt h9 l p e s m args below meth c D dT q A H locs lsA hC hl hq hP hD hS) (fun h9 => kf h9 l p e s m args below meth c D dT q A H locs lsA hC hl hq hP hD hS)
theorem mb_if_ge {x : Int32} {off : Int} (tgt : Nat) (hd : decode J.2.1 k = .ok (.ifCond .ge off, 3)) (ht : (k : Int) + off = (tgt : Int))
    (kt : 0 ≤ x → mx_B T cl J R tb X Z qi n9 z9 tgt ls rest hp) (kf : ¬ 0 ≤ x → mx_B T cl J R tb X Z qi n9 z9 (k + 3) ls rest hp) : mx_B T cl J R tb X Z qi n9 z9 k ls (.int x :: rest) hp := by
  intro l p e s m args below meth c D dT q A H locs lsA hC hl hq hP hD hS
  exact lv_if_ge hC.1 hC.2.1 hd ht (fun h9 => kt h9 l p e s m args below meth c D dT q A H locs lsA hC hl hq hP hD hS) (fun h9 => kf h9 l p e s m args below meth c D dT q A H locs lsA hC hl hq hP hD hS)
theorem mb_icmp_ge {x y : Int32} {off : Int} (tgt : Nat) (hd : decode J.2.1 k = .ok (.if_icmp .ge off, 3)) (ht : (k : Int) + off = (tgt : Int))
    (kt : y ≤ x → mx_B T cl J R tb X Z qi n9 z9 tgt ls rest hp) (kf : ¬ y ≤ x → mx_B T cl J R tb X Z qi n9 z9 (k + 3) ls rest hp) : mx_B T cl J R tb X Z qi n9 z9 k ls (.int y :: .int x :: rest) hp := by
  intro l p e s m args below meth c D dT q A H locs lsA hC hl hq hP hD hS
  exact lv_icmp_ge hC.1 hC.2.1 hd ht (fun h9 => kt h9 l p e s m args below meth c D dT q A H locs lsA hC hl hq hP hD hS) (fun h9 => kf h9 l p e s m args below meth c D dT q A H locs lsA hC hl hq hP hD hS)
theorem mb_if_gt {x : Int32} {off : Int} (tgt : Nat) (hd : decode J.2.1 k = .ok (.ifCond .gt off, 3)) (ht : (k : Int) + off = (tgt : Int))
    (kt : 0 < x → mx_B T cl J R tb X Z qi n9 z9 tgt ls rest hp) (kf : ¬ 0 < x → mx_B T cl J R tb X Z qi n9 z9 (k + 3) ls rest hp) : mx_B T cl J R tb X Z qi n9 z9 k ls (.int x :: rest) hp := by
  intro l p e s m args below meth c D dT q A H locs lsA hC hl hq hP hD hS
  exact lv_if_gt hC.1 hC.2.1 hd ht (fun h9 => kt h9 l p e s m args below meth c D dT q A H locs lsA hC hl hq hP hD hS) (fun h9 => kf h9 l p e s m args below meth c D dT q A H locs lsA hC hl hq hP hD hS)
theorem mb_icmp_gt {x y : Int32} {off : Int} (tgt : Nat) (hd : decode J.2.1 k = .ok (.if_icmp .gt off, 3)) (ht : (k : Int) + off = (tgt : Int))
    (kt : y < x → mx_B T cl J R tb X Z qi n9 z9 tgt ls rest hp) (kf : ¬ y < x → mx_B T cl J R tb X Z qi n9 z9 (k + 3) ls rest hp) : mx_B T cl J R tb X Z qi n9 z9 k ls (.int y :: .int x :: rest) hp := by
  intro l p e s m args below meth c D dT q A H locs lsA hC hl hq hP hD hS
  exact lv_icmp_gt hC.1 hC.2.1 hd ht (fun h9 => kt h9 l p e s m args below meth c D dT q A H locs lsA hC hl hq hP hD hS) (fun h9 => kf h9 l p e s m args below meth c D dT q A H locs lsA hC hl hq hP hD hS)
theorem mb_if_le {x : Int32} {off : Int} (tgt : Nat) (hd : decode J.2.1 k = .ok (.ifCond .le off, 3)) (ht : (k : Int) + off = (tgt : Int))
    (kt : x ≤ 0 → mx_B T cl J R tb X Z qi n9 z9 tgt ls rest hp) (kf : ¬ x ≤ 0 → mx_B T cl J R tb X Z qi n9 z9 (k + 3) ls rest hp) : mx_B T cl J R tb X Z qi n9 z9 k ls (.int x :: rest) hp := by
  intro l p e s m args below meth c D dT q A H locs lsA hC hl hq hP hD hS
  exact lv_if_le hC.1 hC.2.1 hd ht (fun h9 => kt h9 l p e s m args below meth c D dT q A H locs lsA hC hl hq hP hD hS) (fun h9 => kf h9 l p e s m args below meth c D dT q A H locs lsA hC hl hq hP hD hS)
theorem mb_icmp_le {x y : Int32} {off : Int} (tgt : Nat) (hd : decode J.2.1 k = .ok (.if_icmp .le off, 3)) (ht : (k : Int) + off = (tgt : Int))
    (kt : x ≤ y → mx_B T cl J R tb X Z qi n9 z9 tgt ls rest hp) (kf : ¬ x ≤ y → mx_B T cl J R tb X Z qi n9 z9 (k + 3) ls rest hp) : mx_B T cl J R tb X Z qi n9 z9 k ls (.int y :: .int x :: rest) hp := by
  intro l p e s m args below meth c D dT q A H locs lsA hC hl hq hP hD hS
  exact lv_icmp_le hC.1 hC.2.1 hd ht (fun h9 => kt h9 l p e s m args below meth c D dT q A H locs lsA hC hl hq hP hD hS) (fun h9 => kf h9 l p e s m args below meth c D dT q A H locs lsA hC hl hq hP hD hS)
theorem mb_goto {off : Int} (tgt : Nat) (hd : decode J.2.1 k = .ok (.goto off, 3)) (ht : (k : Int) + off = (tgt : Int))
    (kk : mx_B T cl J R tb X Z qi n9 z9 tgt ls rest hp) : mx_B T cl J R tb X Z qi n9 z9 k ls rest hp := by
  intro l p e s m args below meth c D dT q A H locs lsA hC hl hq hP hD hS
  exact lv_goto hC.1 hC.2.1 hd ht (kk l p e s m args below meth c D dT q A H locs lsA hC hl hq hP hD hS)
theorem mb_tableIn {dflt lo hi : Int} {offs : Array Int} {len : Nat} {x : Int32} {off : Int} (tgt : Nat) (hd : decode J.2.1 k = .ok (.tableswitch dflt lo hi offs, len)) (h1 : ¬ x.toInt < lo) (h2 : ¬ hi < x.toInt) (ho : offs[(x.toInt - lo).toNat]? = some off) (ht : (k : Int) + off = (tgt : Int))
    (kk : mx_B T cl J R tb X Z qi n9 z9 tgt ls rest hp) : mx_B T cl J R tb X Z qi n9 z9 k ls (.int x :: rest) hp := by
  intro l p e s m args below meth c D dT q A H locs lsA hC hl hq hP hD hS
  exact lv_tableIn hC.1 hC.2.1 hd h1 h2 ho ht (kk l p e s m args below meth c D dT q A H locs lsA hC hl hq hP hD hS)
theorem mb_tableOut {dflt lo hi : Int} {offs : Array Int} {len : Nat} {x : Int32} (tgt : Nat) (hd : decode J.2.1 k = .ok (.tableswitch dflt lo hi offs, len)) (h : x.toInt < lo ∨ hi < x.toInt) (ht : (k : Int) + dflt = (tgt : Int))
    (kk : mx_B T cl J R tb X Z qi n9 z9 tgt ls rest hp) : mx_B T cl J R tb X Z qi n9 z9 k ls (.int x :: rest) hp := by
  intro l p e s m args below meth c D dT q A H locs lsA hC hl hq hP hD hS
  exact lv_tableOut hC.1 hC.2.1 hd h ht (kk l p e s m args below meth c D dT q A H locs lsA hC hl hq hP hD hS)
theorem mb_lald {b n : Nat} {f : Nat → Int64} {i : Int32} (hd : decode J.2.1 k = .ok (.laload, 1)) (hb : hp[b]? = some (.inl (1, n, .inr (.inl f)))) (hin : vp_in i n)
    (kk : mx_B T cl J R tb X Z qi n9 z9 (k + 1) ls (.long (f i.toNatClampNeg) :: rest) hp) : mx_B T cl J R tb X Z qi n9 z9 k ls (.int i :: .ref b :: rest) hp := by
  intro l p e s m args below meth c D dT q A H locs lsA hC hl hq hP hD hS
  exact va_lald hC.1 hC.2.1 hC.2.2.2.2.2.2.1 hP b 1 (mx_w_get hb) rfl hin hd (kk l p e s m args below meth c D dT q A H locs lsA hC hl hq hP hD hS)
theorem mb_last {b n : Nat} {f : Nat → Int64} {i : Int32} {x : Int64} (hd : decode J.2.1 k = .ok (.lastore, 1)) (hb : hp[b]? = some (.inl (1, n, .inr (.inl f)))) (hin : vp_in i n)
    (kk : mx_B T cl J R tb X Z false n9 z9 (k + 1) ls rest (hp.set b (.inl (1, n, .inr (.inl (vp_updL f i.toNatClampNeg x)))))) : mx_B T cl J R tb X Z false n9 z9 k ls (.long x :: .int i :: .ref b :: rest) hp := by
  intro l p e s m args below meth c D dT q A H locs lsA hC hl hq hP hD hS
  refine va_last hC.1 hC.2.1 hC.2.2.2.2.2.2.1 hP hD hS b 1 (mx_w_get hb) rfl hin hd (fun H1 locs1 hP1 hD1 hS1 => ?_)
  have e1 := mx_w_set q dT hp b (.inl (1, n, .inr (.inl (vp_updL f i.toNatClampNeg x))))
  exact kk l p e s m args below meth c D dT q A H1 locs1 lsA hC hl (fun h => Bool.noConfusion h) (e1 ▸ hP1) (e1 ▸ hD1) hS1
theorem mb_lcmp {x y : Int64} (hd : decode J.2.1 k = .ok (.lcmp, 1)) (kk : mx_B T cl J R tb X Z qi n9 z9 (k + 1) ls (.int (lg_cmp x y) :: rest) hp) : mx_B T cl J R tb X Z qi n9 z9 k ls (.long y :: .long x :: rest) hp := by
  intro l p e s m args below meth c D dT q A H locs lsA hC hl hq hP hD hS
  exact W.lcmp hC.1 hC.2.1 hd (kk l p e s m args below meth c D dT q A H locs lsA hC hl hq hP hD hS)
theorem mb_sld {L : Nat} {xs : Nat → Int32} {i : Int32} (hX : X = some (L, xs)) (hd : decode J.2.1 k = .ok (.iaload, 1)) (hin : vp_in i L) (kk : mx_B T cl J R tb X Z qi n9 z9 (k + 1) ls (.int (xs i.toNatClampNeg) :: rest) hp) : mx_B T cl J R tb X Z qi n9 z9 k ls (.int i :: .ref 1000 :: rest) hp := by
  intro l p e s m args below meth c D dT q A H locs lsA hC hl hq hP hD hS
  have hx := hC.2.2.2.2.2.2.2.2.2.2.2.2.2
  rw [hX] at hx
  exact va_sld hC.1 hC.2.1 hx.1 hx.2.1 hx.2.2.1 hS hin hd (kk l p e s m args below meth c D dT q A H locs lsA hC hl hq hP hD hS)
theorem mb_slen {L : Nat} {xs : Nat → Int32} (hX : X = some (L, xs)) (hd : decode J.2.1 k = .ok (.arraylength, 1)) (kk : mx_B T cl J R tb X Z qi n9 z9 (k + 1) ls (.int (nI L) :: rest) hp) : mx_B T cl J R tb X Z qi n9 z9 k ls (.ref 1000 :: rest) hp := by
  intro l p e s m args below meth c D dT q A H locs lsA hC hl hq hP hD hS
  have hx := hC.2.2.2.2.2.2.2.2.2.2.2.2.2
  rw [hX] at hx
  exact va_slen hC.1 hC.2.1 hx.1 hx.2.1 hx.2.2.1 hS hd (kk l p e s m args below meth c D dT q A H locs lsA hC hl hq hP hD hS)
/-- what a new cell does to the picture -/
theorem mx_grow {D : va_G} {dT : Nat → ClassId} {q : Nat → Nat} {A : Nat → Prop} {H0 H H1 : Heap} {locs : List Loc} {x : va_E} (hlen : hp.length < 1000) (hq : mx_q true q hp H) (hP : va_P D cl (mx_w q dT hp) H) (hD : va_D A (mx_w q dT hp)) (hS : va_S A H0 H locs) (hA : ∀ r : Nat, H0.size ≤ r → A r) (z1 : H1.size = H.size + 1) (o1 : ∀ r, r < H.size → H1[r]? = H[r]?) (hx : va_at D cl (H.size, mx_e q dT x) H1) : q hp.length = H.size ∧ mx_q true q (hp ++ [x]) H1 ∧ va_P D cl (mx_w q dT (hp ++ [x])) H1 ∧ va_D A (mx_w q dT (hp ++ [x])) ∧ va_S A H0 H1 locs := by
  have hql : q hp.length = H.size := by rw [hq rfl _ (Nat.le_refl _) hlen]; omega
  have hk : ∀ (k : Nat) (y : Nat × va_E), (mx_w q dT hp)[k]? = some y → H1[y.1]? = H[y.1]? := fun k y hy => o1 y.1 ((hP k y hy).lt)
  refine ⟨hql, fun _ j h1 h2 => ?_, ?_, ?_, ⟨Nat.le_trans hS.1 (by omega), fun r h1 h2 => (o1 r (Nat.lt_of_lt_of_le h1 hS.1)).trans (hS.2.1 r h1 h2), hS.2.2⟩⟩
  · rw [List.length_append] at h1 ⊢
    have := hq rfl j (by simp at h1; omega) h2
    rw [this, z1]
    simp at h1 ⊢
    omega
  · rw [mx_w_push, hql]
    refine (hP.kept hk).app (fun k y hy => ?_)
    have hz : k < 1 := (List.getElem?_eq_some_iff.mp hy).1
    rw [show k = 0 by omega] at hy
    cases hy
    exact hx
  · rw [mx_w_push, hql]
    exact hD.push hP rfl (hA _ hS.1)
/-- new C -/
theorem mb_new {C : String} {F : u_T} {N ci index : Nat} {fs : List Value} (ty : Nat → FieldType) (hd : decode J.2.1 k = .ok (.new index, 3)) (hc : cl[ci]? = some (C, F, N)) (hin : ∀ w ∈ u_ws C F N, w ∈ T) (hty : ∀ k, k < N → parseFieldDescriptor (F k).2.2.1 = some (ty k)) (w1 : Cond.classLink J.1.cls index C ∈ T) (w2 : Cond.instantiable C N ∈ T) (w3 : Cond.initialized C ∈ T) (hfs : ∀ q j, j < N → defaultValue (ty j) = vp_V (fs.map (mx_v q)) j) (hcells : n9 + 1 ≤ R.cells) (hslots : z9 + N ≤ R.slots) (hlen : hp.length < 1000)
    (kk : mx_B T cl J R tb X Z true (n9 + 1) (z9 + N) (k + 3) ls (.ref hp.length :: rest) (hp ++ [.inr (ci, fs)])) : mx_B T cl J R tb X Z true n9 z9 k ls rest hp := by
  intro l p e s m args below meth c D dT q A H locs lsA hC hl hq hP hD hS
  have hw := hC.2.2.2.2.2.1
  have hKn := hC.2.2.2.2.2.2.1.1 ci _ hc
  refine W.newcK hC.1 hC.2.1 hC.2.2.2.2.1 (hw _ w1) (hw _ w2) (hw _ w3) rfl hd hcells hslots hKn.2.1 rfl fun H1 kC hkC e1 z1 o1 => ?_
  obtain ⟨g1, g2, g3, g4, g5⟩ := mx_grow (H1 := H1) (x := .inr (ci, fs)) hlen hq hP hD hS hC.2.2.2.2.2.2.2.2.1 z1 o1 ⟨_, hc, (u_born ty hw hin hKn hkC e1 hty).to (hfs q)⟩
  have := kk l p e s m args below meth c D dT q A H1 locs lsA hC hl g2 g3 g4 g5
  rw [List.map_cons, show mx_v q (.ref hp.length) = .ref H.size from congrArg Value.ref g1] at this
  exact this
/-- newarray -/
theorem mb_newa {atype : ArrayType} {t N : Nat} {x : vp_A} {n : Int32} (ty : FieldType) (hd : decode J.2.1 k = .ok (.newarray atype, 2)) (hty : newarray.typeOf atype = ty) (w1 : Cond.arrayClass (newarray.typeOf atype) ∈ T) (ht : ∀ dT, (mx_tys dT)[t]? = some (dT t, ty)) (hra : ∀ (U : State) cA, va_RA U cA ty → U.vm.findClass ("[" ++ ty.toString) = some cA) (hx : ∀ q (cA : ClassId), vp_cell cA (mx_a q x) = arrV cA N (fun _ => defaultValue ty)) (hn : ¬ n < 0) (hN : n.toNatClampNeg = N) (hbytes : N * componentBytes ty ≤ 536870912) (hcells : n9 + 1 ≤ R.cells) (hslots : z9 + N ≤ R.slots) (hlen : hp.length < 1000)
    (kk : mx_B T cl J R tb X Z true (n9 + 1) (z9 + N) (k + 2) ls (.ref hp.length :: rest) (hp ++ [.inl (t, x)])) : mx_B T cl J R tb X Z true n9 z9 k ls (.int n :: rest) hp := by
  subst hty
  intro l p e s m args below meth c D dT q A H locs lsA hC hl hq hP hD hS
  have hw := hC.2.2.2.2.2.1
  refine va_newaK hC.1 hC.2.1 (hw _ w1) rfl hd rfl hn hN hbytes hcells hslots rfl fun H1 cA e1 z1 o1 hAr hNm => ?_
  have hcA : cA = dT t := Option.some.inj (hNm.symm.trans (hra s (dT t) (hC.2.2.2.2.2.2.1.2 t _ (ht dT)).2))
  subst hcA
  obtain ⟨g1, g2, g3, g4, g5⟩ := mx_grow (H1 := H1) (x := .inl (t, x)) hlen hq hP hD hS hC.2.2.2.2.2.2.2.2.1 z1 o1 (by show H1[H.size]? = some (vp_cell (dT t) (mx_a q x)); rw [hx]; exact e1)
  have := kk l p e s m args below meth c D dT q A H1 locs lsA hC hl g2 g3 g4 g5
  rw [List.map_cons, show mx_v q (.ref hp.length) = .ref H.size from congrArg Value.ref g1] at this
  exact this
/-- Object's own constructor -/
theorem mb_obj {idx b : Nat} (hd : decode J.2.1 k = .ok (.invokespecial idx, 3)) (w1 : Cond.methodLink J.1.cls idx Lib.objectInit ∈ T) (w2 : Cond.instanceMethod Lib.objectInit ∈ T) (w3 : Cond.code Lib.objectInit ⟨#[0xb1]⟩ 1 none ∈ T) (hfr : 1 ≤ R.frames) (hlo : (rest.map fun v => v.category).sum + 12 ≤ R.locals)
    (kk : mx_B T cl J R tb X Z qi n9 z9 (k + 3) ls rest hp) : mx_B T cl J R tb X Z qi n9 z9 k ls (.ref b :: rest) hp := by
  intro l p e s m args below meth c D dT q A H locs lsA hC hl hq hP hD hS
  have hw := hC.2.2.2.2.2.1
  exact W.objInit hC.1 hC.2.1 hC.2.2.2.2.1 (hw _ w1) (hw _ w2) (hw _ w3) rfl (hl.1.trans hC.2.2.2.1.symm) rfl hd hfr (by
    show 2 * 0 + ((rest.map (mx_v q)).map fun v => v.category).sum + 12 ≤ R.locals
    rw [List.map_map]
    simpa [Function.comp_def, mx_v_cat] using hlo) (kk l p e s m args below meth c D dT q A H locs lsA hC hl hq hP hD hS)
/-- a final field, written in its constructor -/
theorem mb_putF {C : String} {F : u_T} {N ci fi index b y : Nat} {fs : List Value} (ty0 : Nat → FieldType) (hd : decode J.2.1 k = .ok (.putfield index, 3)) (hb : hp[b]? = some (.inr (ci, fs))) (hc : cl[ci]? = some (C, F, N)) (hin : ∀ w ∈ u_ws C F N, w ∈ T) (hty : ∀ k, k < N → parseFieldDescriptor (F k).2.2.1 = some (ty0 k)) (hnm : ∀ a, a < N → ∀ b, b < N → a ≠ b → (F a).2.1 ≠ (F b).2.1) (hk : fi < N) (hlink : Cond.fieldLink J.1.cls index (F fi).1 (F fi).2.1 (F fi).2.2.1 ∈ T) (hfin : (F fi).2.2.2 = true) (hinit : J.1.name = "<init>") (hdecl : (F fi).1 = J.1.cls) {ty : FieldType} (hdt : parseFieldDescriptor (F fi).2.2.1 = some ty) (hn : ∀ a, narrow ty (.ref a) = .ref a) (hfit : ∀ a, fits ty (.ref a) = true) (hl9 : fi < fs.length)
    (kk : mx_B T cl J R tb X Z qi n9 z9 (k + 3) ls rest (hp.set b (.inr (ci, fs.set fi (.ref y))))) : mx_B T cl J R tb X Z qi n9 z9 k ls (.ref y :: .ref b :: rest) hp := by
  intro l p e s m args below meth c D dT q A H locs lsA hC hl hq hP hD hS0
  have hts := hC.2.2.2.2.2.1
  have hK := hC.2.2.2.2.2.2.1
  have hown := hC.2.2.2.2.1
  have he := mx_w_get (q := q) (dT := dT) hb
  have hap := va_apart (own := J.1.cls) hts hin ty0 hty hnm hK hc
  obtain ⟨r, h1, cell, q1, q2, q3, q4⟩ := hP b _ he
  have hr : r = (C, F, N) := Option.some.inj (h1.symm.trans hc)
  subst hr
  obtain ⟨hS, hfc, kC, hkC, hkind⟩ := hK.1 ci _ hc
  obtain ⟨cf, kf, fi9, f, hi, hsl⟩ := hS fi hk
  have hlay := hts _ (hin _ (u_in_lay hk))
  unfold u_lay at hlay
  rw [if_pos hfin] at hlay
  have hst := (u_facts hfc hkC (u_lays hts hin hk) hi).1
  have hcf : m.cls = cf := by
    obtain ⟨_, _, c', _, _, _, -, -, hf', -, -, -, hown2, -⟩ := Cond.laysFinal_spec hlay
    have e1 : c' = cf := by have := hi.symm.trans hf'; simp at this; exact this.1.symm
    rw [hdecl] at hown2
    rw [← e1]; exact Option.some.inj (hown.symm.trans hown2)
  have h6 := u_fits hfc hkC hkind (Or.inr hlay) hi hdt (hn (q y)) (hfit (q y))
  refine W.putFinK hC.1 hC.2.1 hown (hts _ hlink) hi hst hcf (hC.2.2.2.2.2.2.2.2.2.2.2.1 hinit) (by rw [q2]; exact h6) q1 q3 (by rw [hsl]; exact k2_hasslot (q4 fi hk)) rfl rfl hd fun H1 e1 e2 e3 => ?_
  rw [hsl] at e1 ⊢
  have e5 := mx_w_set q dT hp b (.inr (ci, fs.set fi (.ref y)))
  have e6 : mx_e q dT (.inr (ci, fs.set fi (.ref y))) = .inr (ci, (fs.map (mx_v q)).set fi (.ref (q y))) := by
    show Sum.inr (ci, (fs.set fi (.ref y)).map (mx_v q)) = _
    rw [List.map_set]
    rfl
  rw [e6] at e5
  have hl10 : fi < (fs.map (mx_v q)).length := by simpa using hl9
  have hat : va_at D cl (q b, .inr (ci, (fs.map (mx_v q)).set fi (.ref (q y)))) H1 := ⟨_, hc, t_OB.to (V := updV (vp_V (fs.map (mx_v q))) fi (.ref (q y))) ⟨_, e1, q2, q3, t_set q4 hap hk (.ref (q y))⟩ (fun j _ => vp_updV_set hl10 (.ref (q y)) j)⟩
  have hP1 : va_P D cl ((mx_w q dT hp).set b (q b, .inr (ci, (fs.map (mx_v q)).set fi (.ref (q y))))) H1 := hP.set hD he hat e3
  have hD1 : va_D A ((mx_w q dT hp).set b (q b, .inr (ci, (fs.map (mx_v q)).set fi (.ref (q y))))) := hD.set he
  refine kk l p e s m args below meth c D dT q A H1 _ lsA hC hl (fun h j h1 h2 => ?_) (e5 ▸ hP1) (e5 ▸ hD1) (hS0.put e2 e3 (hD.2 b _ he))
  rw [List.length_set] at h1 ⊢
  rw [hq h j h1 h2, e2]
end MB
