/-! The engine, fourth part: a call whose callee throws: the caller throws the same. -/
def mx_QT (D : va_G) (cl : List vw_C) (dT : Nat → ClassId) (q : Nat → Nat) (A : Nat → Prop) (Q : mx_O → List va_E → Prop) : Array Value → State → Outcome → State → Prop := fun _ st o t =>
  ∃ (r : mx_O) (hp' : List va_E), Q r hp' ∧ va_P D cl (mx_w q dT hp') t.heap ∧ va_D A (mx_w q dT hp') ∧ va_F A st t ∧ mx_end q A mx_K st o r t
theorem mx_metT {T : List Cond} {cl : List vw_C} {J : mx_J} {R : Room} {hp : List va_E} {Q : mx_O → List va_E → Prop} {vs : List Value} (l : Launch) (D : va_G) (dT : Nat → ClassId) (q : Nat → Nat) (sz : Nat)
    (hy : plainName J.1.cls = true) (hc : mx_cat1 vs = true) (hlen : vs.length ≤ J.2.2.1) (hW : mx_W mx_K T cl J R 0 (mx_pad vs J.2.2.1) [] hp Q) :
    MetFree l J.1 (headSpec (Cond.code J.1 J.2.1 J.2.2.1 J.2.2.2 :: T) R) (mx_Pc l D cl dT q sz vs hp) (fun _ _ _ _ _ => True) (mx_QT D cl dT q (va_A (mx_w q dT hp) sz) Q) := by
  refine MetFree.of_bodyS (code := J.2.1) (maxLocals := J.2.2.1) (ret := J.2.2.2) hy ?_ ?_
  · intro args s m h hn
    obtain ⟨meth, c, h1, h2, h3, h4, h5, h6, -, -⟩ := Cond.code_spec hn (atoms_spec (ws := Cond.code J.1 J.2.1 J.2.2.1 J.2.2.2 :: T) h _ List.mem_cons_self)
    exact ⟨meth, c, h1, h2, h3, h4, h5, h6⟩
  · intro p e s m args below meth c s₁ B hml hv _
    obtain ⟨rfl, hsz, hP, hK, hD0, hZ0⟩ := hv
    subst hsz
    have hts := atoms_spec (ws := Cond.code J.1 J.2.1 J.2.2.1 J.2.2.2 :: T) B.pre
    have hh0 : s₁.heap = s.heap := by rw [B.state]; rfl
    obtain ⟨t, a1, o, r, hp', h1, h2, h3⟩ := hW l p e s m _ below meth c D dT q _ s.heap [] _ ⟨B.exec, B.bytes, B.returns, hml, findClass_of_methodNamed B.named, fun w hw => hts w (List.mem_cons_of_mem _ hw), hK, B.notSynchronized, fun r h => Or.inr h, mx_nostat hP, hZ0, B.noHandlers (hts _ List.mem_cons_self)⟩ (mx_entry hc hlen) hP hD0.self va_S.rf s₁ hh0 (Stand.of_body B)
    refine ⟨t, o, ?_, h1, h2, r, hp', h3⟩
    rw [lg_entry_eq]
    exact a1
def mx_rmT (R' R : Room) (nL : Nat) : Prop := R'.cells ≤ R.cells ∧ R'.slots ≤ R.slots ∧ R'.frames + 1 ≤ R.frames ∧ 8 + (nL + 11) + R'.locals ≤ R.locals
section MXV
variable {T : List Cond} {cl : List vw_C} {J : mx_J} {R : Room} {k : Nat} {ls : List Value} {hp : List va_E} {Q : mx_O → List va_E → Prop}
set_option maxHeartbeats 2000000 in
theorem mx_VT {J' : mx_J} {R' : Room} {idx n : Nat} {b ci : Nat} {fs : List Value} {r : vw_C} {st : List Value} {Qc : mx_O → List va_E → Prop} (as rest : List Value) (hd : decode J.2.1 k = .ok (.invokevirtual idx, 3)) (hst : st = as.reverse ++ .ref b :: rest) (hG : mx_G T) (hok : mx_ok T J' n) (hV : Cond.instanceMethod J'.1 ∈ T ∧ Cond.selects J'.1.cls J'.1 J'.1 ∈ T) (hlk : Cond.methodLink J.1.cls idx J'.1 ∈ T) (hRm : mx_rmT R' R J'.2.2.1) (hn : as.length = n) (hc1 : mx_cat1 (.ref b :: as) = true) (hle : (.ref b :: as).length ≤ J'.2.2.1) (hrest : (rest.map fun v => v.category).sum ≤ 8) (hb : hp[b]? = some (.inr (ci, fs))) (hci : cl[ci]? = some r) (hr : r.1 = J'.1.cls)
    (hW : mx_W mx_K T cl J' R' 0 (mx_pad (.ref b :: as) J'.2.2.1) [] hp Qc) (hQc : ∀ v hp', ¬ Qc (.inl v) hp') (next : ∀ X hp', Qc (.inr X) hp' → Q (.inr X) hp') : mx_W mx_K T cl J R k ls st hp Q := by
  subst hst
  intro l p e s m args below meth c D dT q A H locs lsA hC hl hP hD hS
  have hw := hC.2.2.2.2.2.1
  have hlocks : meth.locks = false := hC.2.2.2.2.2.2.2.1
  have hM := mx_metT l D dT q H.size hok.2.2.1 hc1 hle hW
  have hr8 : ((rest.map (mx_v q)).map fun v => v.category).sum ≤ 8 := by rw [List.map_map]; simpa [Function.comp_def, mx_v_cat] using hrest
  have hA : ∀ r, va_A (mx_w q dT hp) H.size r → A r := by
    intro r h
    rcases h with ⟨j, x, h⟩ | h
    · exact hD.2 j _ h
    · exact hC.2.2.2.2.2.2.2.2.1 r (Nat.le_trans hS.1 h)
  have hkeep : ∀ (U : State), U.heap = H → ∀ (a : Nat) (cell : Cell), s.heap[a]? = some cell → cell.vm.isStatics = true → U.heap[a]? = some cell := fun U hU a cell h1 h2 => by
    rw [hU, hS.2.1 a (Array.getElem?_eq_some_iff.mp h1).1 (fun hA => by have := hC.2.2.2.2.2.2.2.2.2.1 a hA cell h1; rw [h2] at this; cases this)]
    exact h1
  obtain ⟨cellB, hcB, hoB, hclB⟩ : ∃ cell : Cell, H[q b]? = some cell ∧ cell.vm.isStatics = false ∧ s.vm.findClass J'.1.cls = some cell.cls := by
    rw [← hr]
    exact va_recv hC.2.2.2.2.2.2.1 hP hci (mx_w_get hb)
  refine W.eq (g2 := F0 m k lsA ((as.map (mx_v q)).reverse ++ .ref (q b) :: rest.map (mx_v q))) (by simp [mx_v]) ?_
  intro Tt hT X
  have hy : J'.1.cls ≠ "java/lang/invoke/MethodHandle" ∧ J'.1.cls ≠ "java/lang/invoke/VarHandle" := ⟨hok.2.2.2.1, hok.2.2.2.2.1⟩
  obtain ⟨mk, methM, hnamed, hmethM, hstM, habM⟩ := Cond.instanceMethod_spec (hw _ hV.1)
  obtain ⟨methM', cM, hmethM', -, -, -, -, -, -, hsigM⟩ := Cond.code_spec hnamed (hw _ hok.1)
  cases hmethM.symm.trans hmethM'
  obtain ⟨c2, r2, m2, q1, q2, q3, q4, kP, hkP, hkPi⟩ := Cond.selects_spec (hw _ hV.2)
  cases hclB.symm.trans q1
  cases (State.methodFound?_of_named hnamed hy).symm.trans q2
  cases hnamed.symm.trans q3
  have hselP : selectMethod e.platform s.vm cellB.cls mk = .method mk := by rw [Launch.admits_selectMethod X.admits]; exact q4
  have hdg : decode c.code k = .ok (.invokevirtual idx, 3) := by rw [hC.2.1]; exact hd
  obtain ⟨vm₁, X₁, hstep₁⟩ := X.invokevirtual hC.1 hC.2.2.2.2.1 (hw _ hlk) hnamed hmethM hstM hkP hkPi hy (a := q b) (cell := cellB) (by rw [hT]; exact hcB)
    (fun z h => by rw [h] at hoB; cases hoB) hselP hmethM habM hkP hkPi (g := F0 m k lsA ((as.map (mx_v q)).reverse ++ .ref (q b) :: rest.map (mx_v q))) rfl (argsL := as.map (mx_v q)) (rest := rest.map (mx_v q)) (by rw [List.length_map, hn]; exact mx_par hok.2.2.2.2.2 _ hsigM) rfl hdg
  have hU : (Tt.setVm vm₁).heap = H := hT
  have hW1 : s.WarmedH (Tt.setVm vm₁).vm := X₁.warmed
  have hws := mx_hws hG hok hw
  have hsz : lsA.size = c.maxLocals := hl.1.trans hC.2.2.2.1.symm
  have happ : (headSpec (Cond.code J'.1 J'.2.1 J'.2.2.1 J'.2.2.2 :: T) R').appliesLoose J'.1 e.platform ((Tt.setVm vm₁).calling (F0 m k lsA (rest.map (mx_v q))) mk (Value.ref (q b) :: as.map (mx_v q)).toArray) = true :=
    X₁.appliesAt (S := headSpec (Cond.code J'.1 J'.2.1 J'.2.2.1 J'.2.2.2 :: T) R') (bytes := J'.2.1) (maxL := J'.2.2.1) (ret := J'.2.2.2) (g := F0 m k lsA (rest.map (mx_v q))) rfl hsz hdg (W := 8) (lv_room hr8) (X₁.named hnamed) (atoms_intro fun w h => hws w h _ _ hW1) (hws _ List.mem_cons_self _ _ hW1) (hws _ (List.mem_cons_of_mem _ hok.2.1) _ _ hW1) hRm.2.2.1 hRm.2.2.2 (by rw [Nat.zero_add]; exact hRm.1) (by rw [Nat.zero_add]; exact hRm.2.1)
  have h : At (Tt.setVm vm₁) m c below := X₁.here
  obtain ⟨mid, hmid⟩ := h.above
  have hfr : ((Tt.setVm vm₁).setTop (F0 m k lsA (rest.map (mx_v q)))).frames = (.java (F0 m k lsA (rest.map (mx_v q))) :: mid) ++ below := by rw [State.frames_setTop' _ h.top, hmid]; rfl
  have hPc : mx_Pc l D cl dT q H.size (.ref b :: as) hp (Value.ref (q b) :: as.map (mx_v q)).toArray ((Tt.setVm vm₁).calling (F0 m k lsA (rest.map (mx_v q))) mk (Value.ref (q b) :: as.map (mx_v q)).toArray) :=
    mx_blind l D cl dT q H.size (.ref b :: as) hp _ _ _ _ ⟨rfl, by rw [hU], by rw [hU]; exact hP, va_K.moved hW1.alike hC.2.2.2.2.2.2.1, hD.weaken (fun _ _ _ _ => trivial), mx_Z0_moved hW1.alike (hkeep _ hU) hC.2.2.2.2.2.2.2.2.2.2.1⟩
  obtain ⟨o, s₂, hsteps, -, hend, hq⟩ := Steps.callFree hM p X₁.admits X₁.cas X₁.clock (acts := []) hfr happ hPc trivial
  rw [State.frames_setTop' _ h.top] at hend
  obtain ⟨r, hp', hQ1, hP1, hD1, hF1, hE⟩ := hq
  cases r with
  | inl v => exact absurd hQ1 (hQc v hp')
  | inr Xk =>
    obtain ⟨a, rfl, hKa, L, ⟨-, hW₂, e2, g2, g3, g4, g5, g6⟩, hL⟩ := hE
    have e2' : ({ s₂ with vm := (Tt.setVm vm₁).vm } : State) = { ((Tt.setVm vm₁).calling (F0 m k lsA (rest.map (mx_v q))) mk (Value.ref (q b) :: as.map (mx_v q)).toArray).setFrames s₂.frames with heap := s₂.heap, slotsUsed := s₂.slotsUsed } := e2
    have hW2' : (Tt.setVm vm₁).WarmedH s₂.vm := hW₂
    have hf₂ : s₂.frames = .throwing a :: .java (F0 m k lsA (rest.map (mx_v q))) :: (Tt.setVm vm₁).frames.tail := hend
    obtain ⟨g₀, hg0⟩ := Option.isSome_iff_exists.mp h.top
    obtain ⟨rr, hrr⟩ := State.topJava?_eq_some.mp hg0
    have hs₂ : s₂ = ((({ (Tt.setVm vm₁) with heap := s₂.heap, slotsUsed := s₂.slotsUsed } : State).setVm s₂.vm).setTop (F0 m k lsA (rest.map (mx_v q)))).pushFrame (.throwing a) := by
      have hr' : (({ (Tt.setVm vm₁) with heap := s₂.heap, slotsUsed := s₂.slotsUsed } : State).setVm s₂.vm).frames = .java g₀ :: rr := hrr
      have e3 : s₂ = ({ s₂ with vm := (Tt.setVm vm₁).vm } : State).setVm s₂.vm := rfl
      refine e3.trans ?_
      rw [e2', hf₂, State.calling_eq h.top, State.setFrames_setFrames, State.pushFrame, State.frames_setTop _ hr', State.setTop_of_frames _ hr', State.setFrames_setFrames, hrr]
      rfl
    have hsame : (Tt.setVm vm₁).sameButNew ({ (Tt.setVm vm₁) with heap := s₂.heap, slotsUsed := s₂.slotsUsed } : State) L 1 6 := by
      refine ⟨?_, g2, g3, g4, g5, g6⟩
      obtain ⟨th, hth, -⟩ := State.frames_cons hrr
      show ({ (Tt.setVm vm₁) with heap := s₂.heap, slotsUsed := s₂.slotsUsed } : State) = { (Tt.setVm vm₁).setFrames (Tt.setVm vm₁).frames with heap := s₂.heap, slotsUsed := s₂.slotsUsed }
      rw [State.setFrames_self hth]
    have X₂ : Stand p l e R s m args below meth c (({ (Tt.setVm vm₁) with heap := s₂.heap, slotsUsed := s₂.slotsUsed } : State).setVm s₂.vm) (locs ++ L) (0 + 1) (0 + 6) :=
      ⟨X₁.admits, X₁.cas, X₁.clock, X₁.frames, X₁.room, X₁.hears, X₁.method, X₁.code, (X₁.here.setHeapUsed s₂.heap s₂.slotsUsed).setVm hW2'.alike, X₁.tail, State.WarmedH.trans X₁.warmed hW2', X₁.limits, X₁.bytes, X₁.same.trans (hsame.setVm s.vm)⟩
    obtain ⟨b1, b2, b3, b4, b5⟩ := X₂.leaveThrown a (g := F0 m k lsA (rest.map (mx_v q))) rfl rfl rfl (fun x hx => by
      have h0 := hC.2.2.2.2.2.2.2.2.2.2.2
      rw [Array.isEmpty_iff.mp h0] at hx
      cases hx) hlocks
    rw [← hs₂] at b1
    obtain ⟨hz, hk⟩ := hF1
    have hz : H.size ≤ s₂.heap.size := by rw [← hU]; exact hz
    have hk : ∀ r : Nat, r < H.size → ¬ va_A (mx_w q dT hp) H.size r → s₂.heap[r]? = H[r]? := fun r h1 h2 => by
      have := hk r (by show r < (Tt.setVm vm₁).heap.size; rw [hU]; exact h1) h2
      rw [this]
      show (Tt.setVm vm₁).heap[r]? = _
      rw [hU]
    refine ⟨_, hstep₁ _ (fun acts => by rw [doInvoke_state]; exact hsteps.trans b1), .threw a, .inr Xk, hp', b2, b3, next Xk hp' hQ1, hP1, hD1.weaken (fun _ y _ h => hA y.1 h), ⟨Nat.le_trans hS.1 hz, fun r h1 h2 => ?_⟩, a, rfl, ?_, locs ++ L, ⟨⟨_, rfl⟩, b4, b5⟩, fun x hx => ?_⟩
    · show s₂.heap[r]? = _
      rw [hk r (Nat.lt_of_lt_of_le h1 hS.1) (fun z => h2 (hA r z))]
      exact hS.2.1 r h1 h2
    · obtain ⟨k1, ce, k2, k3, k4⟩ := hKa
      refine ⟨Nat.le_trans hS.1 ?_, ce, k2, ?_, k4⟩
      · rw [← hU]; exact k1
      · have : s.vm.findClass (mx_xn Xk) = (Tt.setVm vm₁).vm.findClass (mx_xn Xk) := (hW1.alike.findClass _ none).symm
        rw [this]
        exact k3
    · rcases List.mem_append.mp hx with h | h
      · exact hS.2.2 x h
      · exact hA _ (hL x h)
end MXV
