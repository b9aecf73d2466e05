/-! The engine, eighth part: methods with handlers: their contract, their call, a throw that is caught. -/
theorem mx_tb_inj : ∀ {a b : List ExceptionTableEntry}, a.map (fun h => (h.startPc, h.endPc, h.handlerPc, h.catchType)) = b.map (fun h => (h.startPc, h.endPc, h.handlerPc, h.catchType)) → a = b
  | [], [], _ => rfl
  | [], _ :: _, h => by simp at h
  | _ :: _, [], h => by simp at h
  | x :: a, y :: b, h => by
    rw [List.map_cons, List.map_cons] at h
    injection h with h1 h2
    have e := mx_tb_inj h2
    subst e
    obtain ⟨x1, x2, x3, x4⟩ := x
    obtain ⟨y1, y2, y3, y4⟩ := y
    simp only [Prod.mk.injEq] at h1
    obtain ⟨e1, e2, e3, e4⟩ := h1
    subst e1; subst e2; subst e3; subst e4
    rfl
section MB4
variable {T : List Cond} {cl : List vw_C} {J : mx_J} {R : Room} {tb : List ExceptionTableEntry} {X : Option (Nat × (Nat → Int32))} {Z : mx_ZT} {n9 z9 k nn zz : Nat} {ls : List Value}
theorem mx_metH {vs : List Value} {hp : List va_E} {Q : Option Value → List va_E → Prop} {hh : List (Nat × Nat × Nat × Nat)} (l : Launch) (D : va_G) (dT : Nat → ClassId) (q : Nat → Nat) (sz : Nat) (hy : plainName J.1.cls = true) (hc : mx_cat1 vs = true) (hlen : vs.length ≤ J.2.2.1) (htb : tb.map (fun h => (h.startPc, h.endPc, h.handlerPc, h.catchType)) = hh) (hni : ¬ J.1.name = "<init>")
    (hW : mx_B T cl J R tb none (mx_ZR cl nn zz false Q) false 0 0 0 (mx_pad vs J.2.2.1) [] hp) :
    Met l J.1 (Cond.codeWith J.1 J.2.1 J.2.2.1 J.2.2.2 hh :: T) R (mx_Pc l D cl dT q sz vs hp) (mx_QN D cl dT q (va_A (mx_w q dT hp) sz) false Q) nn zz (va_A (mx_w q dT hp) sz) := by
  refine va_MetW (cc := J.2.1) (maxL := J.2.2.1) (ret := J.2.2.2) (hh := hh) hy rfl ?_
  intro p e s m args below meth c s₁ B hml hv
  obtain ⟨rfl, hsz, hP, hK, hD0, hZ0⟩ := hv
  subst hsz
  have hts := atoms_spec (ws := Cond.codeWith J.1 J.2.1 J.2.2.1 J.2.2.2 hh :: T) B.pre
  have htab : c.exceptionTable.toList = tb := by
    obtain ⟨m', meth', c', q1, q2, q3, -, -, q4, -⟩ := Cond.codeWith_spec (hts _ List.mem_cons_self)
    cases B.named.symm.trans q1
    cases B.method.symm.trans q2
    cases (Stand.of_body B).code.symm.trans q3
    exact mx_tb_inj (q4.trans htb.symm)
  rw [lg_entry_eq]
  refine mx_Wmono ?_ (hW l p e s m _ below meth c D dT q _ s.heap [] _ ⟨B.exec, B.bytes, B.returns, hml, findClass_of_methodNamed B.named, fun w hw => hts w (List.mem_cons_of_mem _ hw), hK, B.notSynchronized, fun r h => Or.inr h, mx_nostat hP, hZ0, fun h => absurd h hni, fun _ => htab, trivial⟩ (mx_entry hc hlen) (fun h => Bool.noConfusion h) hP hD0.self va_S.rf)
  intro t ht
  obtain ⟨v, hp', h1, h2, h3, h4, h5, h6, h7, L, hF, hL⟩ := ht
  exact ⟨_, h1, h2, ⟨v, hp', rfl, h3, h4, h5, h6, h7⟩, L, hF, hL⟩
/-- invokestatic of a method with handlers -/
theorem mx_runSH {p : Program} {l : Launch} {e : Env} {s : State} {m : MethodId} {args : Array Value} {below : List Frame} {meth : Method} {c : Code} {H : Heap} {locs : List Loc} {cells slots : Nat} {y : MethodName} {bytes cc : ByteArray} {maxL nL mc ms n index : Nat} {ret : Option FieldType} {hh : List (Nat × Nat × Nat × Nat)} {ws : List Cond} {rm : Room} {Pc : Array Value → State → Prop} {Qc : Array Value → State → Outcome → State → Prop} {free : Addr → Prop} {Ts : List Cond} {own : String} {As rest : List Value} {g : JFrame}
    (S : CallFix p m c cc nL s args Ts own) (hM : Met l y ws rm Pc Qc mc ms free) (hrc : rm.cells = mc) (hrs : rm.slots = ms) (hfr : rm.frames + 1 ≤ R.frames) (hlo : 8 + (maxL + 11) + rm.locals ≤ R.locals) (hws : ∀ w ∈ ws, ∀ (a' : Array Value) (U : State), s.WarmedH U.vm → w.before a' U = true) (hcw : Cond.codeWith y bytes maxL ret hh ∈ ws) (hcode : (Cond.codeWith y bytes maxL ret hh).before args s = true) (hstat : (Cond.static y).before args s = true) (hini : (Cond.initialized y.cls).before args s = true) (hy : y.cls ≠ "java/lang/invoke/MethodHandle" ∧ y.cls ≠ "java/lang/invoke/VarHandle") (hlen : ∀ sig, parseMethodDescriptor y.desc = some sig → n = sig.parameters.length) (hlk : (Cond.methodLink own index y).before args s = true) (hp : PreS s H Pc As)
    (hg : g.method = m) (hn : As.length = n) (hsize : g.locals.size = nL) (hstack : g.stack = As.reverse ++ rest) (hW : 2 * g.monitorRoom + (rest.map fun v => v.category).sum ≤ 8) (hdg : decode cc g.pc = .ok (.invokestatic index, 3)) (hf : cells + mc ≤ R.cells ∧ slots + ms ≤ R.slots) :
    va_Run p l e R s m args below meth c H locs cells slots mc ms g rest (Qc As.toArray) (free) := by
  have hK : Back l R p e below s args y 3 8 (PreOf R mc ms Pc) (PostOf Qc mc ms free) := va_backW (bytes := bytes) (maxL := maxL) (ret := ret) (hh := hh) hM hp.1 hrc hrs hfr hlo hws hcw (fun a' U hW => word_at hW (Or.inl (by first | rfl | simp [Cond.onTables, Cond.keeps, Cond.steady])) hini)
  obtain ⟨hx, hb, hml, ho, -⟩ := S
  intro T hT X
  obtain ⟨mk, methM, cM, hnamed, hmethM, -, -, -, -, -, -, hsigM⟩ := Cond.codeWith_spec hcode
  have hstatic : methM.isStatic = true := Cond.static_spec hnamed hmethM hstat
  obtain ⟨kP, hkP, -⟩ := className_of_methodNamed hnamed
  have hinitP : kP.init = .initialized := Cond.initialized_spec (findClass_of_methodNamed hnamed) hkP hini
  have hdg' : decode c.code g.pc = .ok (.invokestatic index, 3) := by rw [hb]; exact hdg
  obtain ⟨vm₁, X₁, hstep₁⟩ := X.invokestatic hx ho hlk hnamed hmethM hstatic hkP hinitP hy (g := g) hg (argsL := As) (rest := rest) (hn.trans (hlen _ hsigM)) hstack hdg'
  obtain ⟨v, ⟨U', l2, c2, s2⟩, X', ⟨g', mk', t, L, e1, e2, hq, h1, hL, h2, h3⟩, hsteps⟩ := hK m meth c ⟨T.setVm vm₁, locs, cells, slots⟩ { g with stack := rest } (.invokestatic index) mk As.toArray X₁ hg (hsize.trans hml.symm) hdg' hW (X₁.named hnamed) ⟨hf.1, hf.2, hp.2 (T.setVm vm₁) hT X₁.warmed⟩
  dsimp only [Pt.U, Pt.locs, Pt.cells, Pt.slots] at X' e1 e2 h1 h2 h3 hsteps
  subst h1; subst h2; subst h3
  exact ⟨v, (T.setVm vm₁).calling g' mk' As.toArray, t, U', L, hT, X', hL, e1, e2, hq, fun target h => hstep₁ _ fun acts => by rw [doInvoke_state]; exact hsteps.trans h⟩
/-- the law calls a helper: over the first part of its picture -/
theorem mb_SH {J' : mx_J} {R' : Room} {idx n : Nat} {st : List Value} {hpc hpc' : List va_E} {kx : Int32} {hh : List (Nat × Nat × Nat × Nat)} {tb' : List ExceptionTableEntry} (put : List va_E → List va_E) (w2 : (Nat → Nat) → (Nat → ClassId) → va_W) (as rest : List Value) (hd : decode J.2.1 k = .ok (.invokestatic idx, 3)) (hst : st = as.reverse ++ rest) (hG : mx_G T) (hcode : Cond.codeWith J'.1 J'.2.1 J'.2.2.1 J'.2.2.2 hh ∈ T) (hini : Cond.initialized J'.1.cls ∈ T) (hy : plainName J'.1.cls = true) (hy2 : J'.1.cls ≠ "java/lang/invoke/MethodHandle" ∧ J'.1.cls ≠ "java/lang/invoke/VarHandle") (hpar : (parseMethodDescriptor J'.1.desc).map (fun d => d.parameters.length) = some n) (hV : Cond.static J'.1 ∈ T) (hlk : Cond.methodLink J.1.cls idx J'.1 ∈ T) (hRc : R'.cells = 1 ∧ R'.slots = 6 ∧ R'.frames + 1 ≤ R.frames ∧ 8 + (J'.2.2.1 + 11) + R'.locals ≤ R.locals) (hn : as.length = n) (hc1 : mx_cat1 as = true) (hle : as.length ≤ J'.2.2.1) (hrest : (rest.map fun v => v.category).sum ≤ 8)
    (hput : ∀ h : List va_E, h.length = hpc.length → ∀ q dT, mx_w q dT (put h) = mx_w q dT h ++ w2 q dT) (htb : tb'.map (fun h => (h.startPc, h.endPc, h.handlerPc, h.catchType)) = hh) (hni : ¬ J'.1.name = "<init>")
    (hW : mx_B T cl J' R' tb' none (mx_ZR cl 1 6 false (fun v h => v = some (.int kx) ∧ h = hpc')) false 0 0 0 (mx_pad as J'.2.2.1) [] hpc) (hl2 : hpc'.length = hpc.length)
    (hcs : n9 + 1 ≤ R.cells ∧ z9 + 6 ≤ R.slots) (next : mx_B T cl J R tb X Z false (n9 + 1) (z9 + 6) (k + 3) ls (.int kx :: rest) (put hpc')) : mx_B T cl J R tb X Z false n9 z9 k ls st (put hpc) := by
  subst hst
  intro l p e s m args below meth c D dT q A H locs lsA hC hl hq hP hD hS
  have hw := hC.2.2.2.2.2.1
  have hsp := hput hpc rfl q dT
  have hM := mx_metH l D dT q H.size hy hc1 hle htb hni hW
  have hr8 : ((rest.map (mx_v q)).map fun v => v.category).sum ≤ 8 := by rw [List.map_map]; simpa [Function.comp_def, mx_v_cat] using hrest
  obtain ⟨hPc, -⟩ := va_P_cut (by rw [← hsp]; exact hP : va_P D cl (mx_w q dT hpc ++ w2 q dT) H)
  obtain ⟨hDc, -, -⟩ := va_D_cut (by rw [← hsp]; exact hD : va_D A (mx_w q dT hpc ++ w2 q dT))
  have hpre : ∀ U : State, U.heap = H → s.WarmedH U.vm → mx_Pc l D cl dT q H.size as hpc (as.map (mx_v q)).toArray U := fun U hU hWm => ⟨rfl, by rw [hU], by rw [hU]; exact hPc, va_K.moved hWm.alike hC.2.2.2.2.2.2.1, hDc.weaken (fun _ _ _ _ => trivial), mx_Z0_moved hWm.alike (fun a cell h1 h2 => by rw [hU, hS.2.1 a (Array.getElem?_eq_some_iff.mp h1).1 (fun hA => by have := hC.2.2.2.2.2.2.2.2.2.1 a hA cell h1; rw [h2] at this; cases this)]; exact h1) hC.2.2.2.2.2.2.2.2.2.2.1⟩
  have hbl := mx_blind l D cl dT q H.size as hpc
  have hws : ∀ w ∈ Cond.codeWith J'.1 J'.2.1 J'.2.2.1 J'.2.2.2 hh :: T, ∀ (a' : Array Value) (U : State), s.WarmedH U.vm → w.before a' U = true := fun w h a' U hWm => by
    have h1 : w ∈ T := by
      rcases List.mem_cons.mp h with rfl | h
      · exact hcode
      · exact h
    exact mx_warm (hG w h1) hWm (hw w h1)
  refine W.eq (g2 := F0 m k lsA ((as.map (mx_v q)).reverse ++ rest.map (mx_v q))) (by simp [mx_v]) ?_
  have hrun := mx_runSH (R := R) (n := n) (locs := locs) (cells := n9) (slots := z9) (As := as.map (mx_v q)) (rest := rest.map (mx_v q)) (g := F0 m k lsA ((as.map (mx_v q)).reverse ++ rest.map (mx_v q))) (below := below) (meth := meth) (e := e) ⟨hC.1, hC.2.1, hC.2.2.2.1, hC.2.2.2.2.1, hw⟩ hM hRc.1 hRc.2.1 hRc.2.2.1 hRc.2.2.2 hws List.mem_cons_self (hw _ hcode) (hw _ hV) (hw _ hini) hy2 (mx_par hpar) (hw _ hlk) ⟨hbl, hpre⟩ rfl (by simpa using hn) hl.1 rfl (lv_room hr8) hd hcs
  refine mb_after (q2 := q) (w1 := []) (w2 := w2 q dT) (Qc := fun v h => v = some (.int kx) ∧ h = hpc') hrun (fun st o t h => ?_) (by rw [List.nil_append]; exact hsp) hC hl hP hD hS (fun v h hv => ?_)
  · obtain ⟨v, h2, a1, a2, a3, a4, a5, _⟩ := h
    exact ⟨v, h2, a1, a2, a3, a4, a5⟩
  · obtain ⟨rfl, rfl⟩ := hv
    exact ⟨put h, by rw [List.nil_append]; exact hput h hl2 q dT, rfl, next⟩
set_option maxHeartbeats 2000000 in
/-- a virtual call that throws, caught: the handler answers kx -/
theorem mb_VX {J' : mx_J} {R' : Room} {idx n ci : Nat} {fs : List Value} {r : vw_C} {st : List Value} {hpc hpc' : List va_E} {Qc : mx_O → List va_E → Prop} {Q : Option Value → List va_E → Prop} {pre post : List ExceptionTableEntry} {j9 : Nat} {ic : Int} {kx : Int32} (Y : Nat) (x : ExceptionTableEntry) (put : List va_E → List va_E) (w2 : (Nat → Nat) → (Nat → ClassId) → va_W) (as rest : List Value) (hd : decode J.2.1 k = .ok (.invokevirtual idx, 3)) (hst : st = as.reverse ++ .ref 0 :: rest) (hG : mx_G T) (hok : mx_ok T J' n) (hV : Cond.instanceMethod J'.1 ∈ T ∧ Cond.selects J'.1.cls J'.1 J'.1 ∈ T) (hlk : Cond.methodLink J.1.cls idx J'.1 ∈ T) (hRm : mx_rmT R' R J'.2.2.1) (hn : as.length = n) (hc1 : mx_cat1 (.ref 0 :: as) = true) (hle : (.ref 0 :: as).length ≤ J'.2.2.1) (hrest : (rest.map fun v => v.category).sum ≤ 8) (hb : hpc[0]? = some (.inr (ci, fs))) (hci : cl[ci]? = some r) (hr : r.1 = J'.1.cls)
    (hput : ∀ h : List va_E, h.length = hpc.length → ∀ q dT, mx_w q dT (put h) = mx_w q dT h ++ w2 q dT)
    (hW : mx_W mx_K T cl J' R' 0 (mx_pad (.ref 0 :: as) J'.2.2.1) [] hpc Qc) (hQc : ∀ v h, ¬ Qc (.inl v) h) (hQx : ∀ Y2 h, Qc (.inr Y2) h → Y2 = Y ∧ h = hpc') (hl2 : hpc'.length = hpc.length)
    (htb : tb = pre ++ x :: post) (hpass : ∀ y ∈ pre, y.catchType ≠ 0 ∧ ∃ nm : String, Cond.classLink J.1.cls y.catchType nm ∈ T ∧ (mx_xn Y, nm) ∈ mx_nc) (hcov : covers x k = true) (hct : x.catchType ≠ 0) (wlk : Cond.classLink J.1.cls x.catchType (mx_xn Y) ∈ T)
    (ln : Nat) (hd1 : (decode J.2.1 x.handlerPc = .ok (.astore j9, 2) ∧ ln = 2) ∨ ∃ j8 : Fin 4, decode J.2.1 x.handlerPc = .ok (.astore_n j8, 1) ∧ (j8 : Nat) = j9 ∧ ln = 1) (hj : j9 < J.2.2.1) (hd2 : decode J.2.1 (x.handlerPc + ln) = .ok (.iconst ic, 1)) (hic : Int32.ofInt ic = kx) (hd3 : decode J.2.1 (x.handlerPc + ln + 1) = .ok (.ireturn, 1)) (hret : J.2.2.2 = some .int) (hQ : Q (some (.int kx)) (put hpc')) : mx_B T cl J R tb X (mx_ZR cl 1 6 false Q) false 0 0 k ls st (put hpc) := by
  subst hst
  intro l p e s m args below meth c D dT q A H locs lsA hC hl hq hP hD hS
  have hw := hC.2.2.2.2.2.1
  have hlocks : meth.locks = false := hC.2.2.2.2.2.2.2.1
  have hsp := hput hpc rfl q dT
  rw [hsp] at hP hD
  have hM := mx_metT l D dT q H.size hok.2.2.1 hc1 hle hW
  have hr8 : ((rest.map (mx_v q)).map fun v => v.category).sum ≤ 8 := by rw [List.map_map]; simpa [Function.comp_def, mx_v_cat] using hrest
  obtain ⟨hPc, -⟩ := va_P_cut hP
  obtain ⟨hDc, -, -⟩ := va_D_cut hD
  have hA : ∀ r, va_A (mx_w q dT hpc) H.size r → A r := by
    intro r h
    rcases h with ⟨j, x, h⟩ | h
    · exact hDc.2 j _ h
    · exact hC.2.2.2.2.2.2.2.2.1 r (Nat.le_trans hS.1 h)
  have hkeep : ∀ (U : State), U.heap = H → ∀ (a : Nat) (cell : Cell), s.heap[a]? = some cell → cell.vm.isStatics = true → U.heap[a]? = some cell := fun U hU a cell h1 h2 => by
    rw [hU, hS.2.1 a (Array.getElem?_eq_some_iff.mp h1).1 (fun hA => by have := hC.2.2.2.2.2.2.2.2.2.1 a hA cell h1; rw [h2] at this; cases this)]
    exact h1
  obtain ⟨cellB, hcB, hoB, hclB⟩ : ∃ cell : Cell, H[q 0]? = some cell ∧ cell.vm.isStatics = false ∧ s.vm.findClass J'.1.cls = some cell.cls := by
    rw [← hr]
    exact va_recv hC.2.2.2.2.2.2.1 hPc hci (mx_w_get hb)
  refine W.eq (g2 := F0 m k lsA ((as.map (mx_v q)).reverse ++ .ref (q 0) :: rest.map (mx_v q))) (by simp [mx_v]) ?_
  intro Tt hT X9
  have hy : J'.1.cls ≠ "java/lang/invoke/MethodHandle" ∧ J'.1.cls ≠ "java/lang/invoke/VarHandle" := ⟨hok.2.2.2.1, hok.2.2.2.2.1⟩
  obtain ⟨mk, methM, hnamed, hmethM, hstM, habM⟩ := Cond.instanceMethod_spec (hw _ hV.1)
  obtain ⟨methM', cM, hmethM', -, -, -, -, -, -, hsigM⟩ := Cond.code_spec hnamed (hw _ hok.1)
  cases hmethM.symm.trans hmethM'
  obtain ⟨c2, r2, m2, q1, q2, q3, q4, kP, hkP, hkPi⟩ := Cond.selects_spec (hw _ hV.2)
  cases hclB.symm.trans q1
  cases (State.methodFound?_of_named hnamed hy).symm.trans q2
  cases hnamed.symm.trans q3
  have hselP : selectMethod e.platform s.vm cellB.cls mk = .method mk := by rw [Launch.admits_selectMethod X9.admits]; exact q4
  have hdg : decode c.code k = .ok (.invokevirtual idx, 3) := by rw [hC.2.1]; exact hd
  obtain ⟨vm₁, X₁, hstep₁⟩ := X9.invokevirtual hC.1 hC.2.2.2.2.1 (hw _ hlk) hnamed hmethM hstM hkP hkPi hy (a := q 0) (cell := cellB) (by rw [hT]; exact hcB)
    (fun z h => by rw [h] at hoB; cases hoB) hselP hmethM habM hkP hkPi (g := F0 m k lsA ((as.map (mx_v q)).reverse ++ .ref (q 0) :: rest.map (mx_v q))) rfl (argsL := as.map (mx_v q)) (rest := rest.map (mx_v q)) (by rw [List.length_map, hn]; exact mx_par hok.2.2.2.2.2 _ hsigM) rfl hdg
  have hU : (Tt.setVm vm₁).heap = H := hT
  have hW1 : s.WarmedH (Tt.setVm vm₁).vm := X₁.warmed
  have hws := mx_hws hG hok hw
  have hsz : lsA.size = c.maxLocals := hl.1.trans hC.2.2.2.1.symm
  have happ : (headSpec (Cond.code J'.1 J'.2.1 J'.2.2.1 J'.2.2.2 :: T) R').appliesLoose J'.1 e.platform ((Tt.setVm vm₁).calling (F0 m k lsA (rest.map (mx_v q))) mk (Value.ref (q 0) :: as.map (mx_v q)).toArray) = true :=
    X₁.appliesAt (S := headSpec (Cond.code J'.1 J'.2.1 J'.2.2.1 J'.2.2.2 :: T) R') (bytes := J'.2.1) (maxL := J'.2.2.1) (ret := J'.2.2.2) (g := F0 m k lsA (rest.map (mx_v q))) rfl hsz hdg (W := 8) (lv_room hr8) (X₁.named hnamed) (atoms_intro fun w h => hws w h _ _ hW1) (hws _ List.mem_cons_self _ _ hW1) (hws _ (List.mem_cons_of_mem _ hok.2.1) _ _ hW1) hRm.2.2.1 hRm.2.2.2 (by rw [Nat.zero_add]; exact hRm.1) (by rw [Nat.zero_add]; exact hRm.2.1)
  have h : At (Tt.setVm vm₁) m c below := X₁.here
  obtain ⟨mid, hmid⟩ := h.above
  have hfr : ((Tt.setVm vm₁).setTop (F0 m k lsA (rest.map (mx_v q)))).frames = (.java (F0 m k lsA (rest.map (mx_v q))) :: mid) ++ below := by rw [State.frames_setTop' _ h.top, hmid]; rfl
  have hPc1 : mx_Pc l D cl dT q H.size (.ref 0 :: as) hpc (Value.ref (q 0) :: as.map (mx_v q)).toArray ((Tt.setVm vm₁).calling (F0 m k lsA (rest.map (mx_v q))) mk (Value.ref (q 0) :: as.map (mx_v q)).toArray) :=
    mx_blind l D cl dT q H.size (.ref 0 :: as) hpc _ _ _ _ ⟨rfl, by rw [hU], by rw [hU]; exact hPc, va_K.moved hW1.alike hC.2.2.2.2.2.2.1, hDc.weaken (fun _ _ _ _ => trivial), mx_Z0_moved hW1.alike (hkeep _ hU) hC.2.2.2.2.2.2.2.2.2.2.1⟩
  obtain ⟨o, s₂, hsteps, -, hend, hq⟩ := Steps.callFree hM p X₁.admits X₁.cas X₁.clock (acts := []) hfr happ hPc1 trivial
  rw [State.frames_setTop' _ h.top] at hend
  obtain ⟨r, hp', hQ1, hP1, hD1, hF1, hE⟩ := hq
  cases r with
  | inl v => exact absurd hQ1 (hQc v hp')
  | inr Xk =>
    obtain ⟨rfl, rfl⟩ := hQx _ _ hQ1
    obtain ⟨a, rfl, hKa, L, ⟨-, hW₂, e2, g2, g3, g4, g5, g6⟩, hL⟩ := hE
    have e2' : ({ s₂ with vm := (Tt.setVm vm₁).vm } : State) = { ((Tt.setVm vm₁).calling (F0 m k lsA (rest.map (mx_v q))) mk (Value.ref (q 0) :: as.map (mx_v q)).toArray).setFrames s₂.frames with heap := s₂.heap, slotsUsed := s₂.slotsUsed } := e2
    have hW2' : (Tt.setVm vm₁).WarmedH s₂.vm := hW₂
    have hf₂ : s₂.frames = .throwing a :: .java (F0 m k lsA (rest.map (mx_v q))) :: (Tt.setVm vm₁).frames.tail := hend
    obtain ⟨g₀, hg0⟩ := Option.isSome_iff_exists.mp h.top
    obtain ⟨rr, hrr⟩ := State.topJava?_eq_some.mp hg0
    have hs₂ : s₂ = ((({ (Tt.setVm vm₁) with heap := s₂.heap, slotsUsed := s₂.slotsUsed } : State).setVm s₂.vm).setTop (F0 m k lsA (rest.map (mx_v q)))).pushFrame (.throwing a) := by
      have hr' : (({ (Tt.setVm vm₁) with heap := s₂.heap, slotsUsed := s₂.slotsUsed } : State).setVm s₂.vm).frames = .java g₀ :: rr := hrr
      have e3 : s₂ = ({ s₂ with vm := (Tt.setVm vm₁).vm } : State).setVm s₂.vm := rfl
      refine e3.trans ?_
      rw [e2', hf₂, State.calling_eq h.top, State.setFrames_setFrames, State.pushFrame, State.frames_setTop _ hr', State.setTop_of_frames _ hr', State.setFrames_setFrames, hrr]
      rfl
    have hsame : (Tt.setVm vm₁).sameButNew ({ (Tt.setVm vm₁) with heap := s₂.heap, slotsUsed := s₂.slotsUsed } : State) L 1 6 := by
      refine ⟨?_, g2, g3, g4, g5, g6⟩
      obtain ⟨th, hth, -⟩ := State.frames_cons hrr
      show ({ (Tt.setVm vm₁) with heap := s₂.heap, slotsUsed := s₂.slotsUsed } : State) = { (Tt.setVm vm₁).setFrames (Tt.setVm vm₁).frames with heap := s₂.heap, slotsUsed := s₂.slotsUsed }
      rw [State.setFrames_self hth]
    have X₂ : Stand p l e R s m args below meth c (({ (Tt.setVm vm₁) with heap := s₂.heap, slotsUsed := s₂.slotsUsed } : State).setVm s₂.vm) (locs ++ L) (0 + 1) (0 + 6) :=
      ⟨X₁.admits, X₁.cas, X₁.clock, X₁.frames, X₁.room, X₁.hears, X₁.method, X₁.code, (X₁.here.setHeapUsed s₂.heap s₂.slotsUsed).setVm hW2'.alike, X₁.tail, State.WarmedH.trans X₁.warmed hW2', X₁.limits, X₁.bytes, X₁.same.trans (hsame.setVm s.vm)⟩
    obtain ⟨hz, hk⟩ := hF1
    have hz : H.size ≤ s₂.heap.size := by rw [← hU]; exact hz
    have hk : ∀ r : Nat, r < H.size → ¬ va_A (mx_w q dT hpc) H.size r → s₂.heap[r]? = H[r]? := fun r h1 h2 => by
      have := hk r (by show r < (Tt.setVm vm₁).heap.size; rw [hU]; exact h1) h2
      rw [this]
      show (Tt.setVm vm₁).heap[r]? = _
      rw [hU]
    obtain ⟨k1, ce, k2, k3, k4⟩ := hKa
    have hfc : s.vm.findClass (mx_xn Xk) = some ce.cls := by
      have : s.vm.findClass (mx_xn Xk) = (Tt.setVm vm₁).vm.findClass (mx_xn Xk) := (hW1.alike.findClass _ none).symm
      rw [this]
      exact k3
    have hpl : e.platform.magicAccessors = ({} : Platform).magicAccessors := by rw [X₂.admits.platform]
    obtain ⟨hrc, hkc⟩ := X₂.catches_of_link hC.2.2.2.2.1 hct (hw _ wlk) hfc (Jvm.Free.SB.assignable_self _ _)
    have htab : c.exceptionTable.toList = pre ++ x :: post := by
      rw [hC.2.2.2.2.2.2.2.2.2.2.2.2.1 (by rw [htb]; simp), htb]
    obtain ⟨vm', XV, stc⟩ := X₂.thenCaughtThrough a (g := F0 m k lsA (rest.map (mx_v q))) rfl (by rw [← hs₂]; exact hsteps) (cell := ce) k2 (by rw [k4]; rfl) hkc pre x post htab (fun y hy => by
      obtain ⟨y1, nm, y2, y3⟩ := hpass y hy
      obtain ⟨c', hc', hcl⟩ := Cond.classLink_spec hC.2.2.2.2.1 (hw _ y2) e.platform hpl
      exact Or.inr ⟨y1, c', hcl, hC.2.2.2.2.2.2.2.2.2.2.1.2.2.2.2 _ y3 _ _ hfc hc'⟩) hcov hrc
    have hS1 : va_S A s.heap s₂.heap (locs ++ L) := ⟨Nat.le_trans hS.1 hz, fun r h1 h2 => by rw [hk r (Nat.lt_of_lt_of_le h1 hS.1) (fun z => h2 (hA r z))]; exact hS.2.1 r h1 h2, fun r hr => by
      rcases List.mem_append.mp hr with h | h
      · exact hS.2.2 r h
      · exact hA _ (hL r h)⟩
    obtain ⟨j1, j2⟩ := mx_join (w1 := []) (H1 := s₂.heap) hP hD hk hA hP1 hD1
    rw [List.nil_append, ← hput _ hl2 q dT] at j1 j2
    have KK : W p l e R s m args below meth c s₂.heap (locs ++ L) (0 + 1) (0 + 6) (mx_ZR cl 1 6 false Q D dT q A below args s) (F0 m x.handlerPc lsA [.ref a]) := by
      have tail : ∀ lsB : Array Slot, W p l e R s m args below meth c s₂.heap (locs ++ L) (0 + 1) (0 + 6) (mx_ZR cl 1 6 false Q D dT q A below args s) (F0 m (x.handlerPc + ln) lsB []) := fun lsB => by
        refine lv_iconst hC.1 hC.2.1 hd2 hic ?_
        refine W.widen (Nat.le_refl _) (Nat.le_refl _) (mx_Wmono ?_ (W.zret (Qc := fun _ _ o t => o = .returned (some (.int kx)) ∧ t.heap = s₂.heap) (free := A) hC.1 hC.2.1 (hC.2.2.1.trans hret) rfl (fun t ht _ => ⟨rfl, ht⟩) hS1.2.2 hd3 hlocks))
        intro t ht
        obtain ⟨o, a1, a2, ⟨rfl, hh⟩, L, hF, hL⟩ := ht
        exact ⟨some (.int kx), _, a1, a2, hQ, by rw [hh]; exact j1, j2, hS1.F hh, fun h => Bool.noConfusion h, L, hF, hL⟩
      rcases hd1 with ⟨hd1, rfl⟩ | ⟨j8, hd1, hj8, rfl⟩
      · exact lv_astore hC.1 hC.2.1 hd1 hl hj rfl (fun lsB hB => tail lsB)
      · exact lv_astore_n hC.1 hC.2.1 hd1 hj8 hl hj rfl (fun lsB hB => tail lsB)
    obtain ⟨t, a1, b1⟩ := KK ((({ (Tt.setVm vm₁) with heap := s₂.heap, slotsUsed := s₂.slotsUsed } : State).setVm s₂.vm).setVm vm') rfl XV
    exact ⟨t, hstep₁ _ (fun acts => by rw [doInvoke_state]; exact stc.trans a1), b1⟩
end MB4
