/-! The engine, third part: throw new X(); a callee that throws. -/
def mx_xn : Nat → String
  | 0 => "java/lang/IllegalArgumentException"
  | 1 => "java/lang/UnsupportedOperationException"
  | 2 => "java/util/NoSuchElementException"
  | _ => "java/lang/IllegalStateException"
def mx_up : List String := ["java/lang/RuntimeException", "java/lang/Exception"]
/-- the thrown object: a new cell of its class -/
def mx_K (X : Nat) (a : Addr) (s t : State) : Prop := s.heap.size ≤ a ∧ ∃ ce : Cell, t.heap[a]? = some ce ∧ s.vm.findClass (mx_xn X) = some ce.cls ∧ ce.vm = .none
theorem mx_Sf_isRef {C n d : String} {s : State} {args : Array Value} (h : mx_Sf C n d s) : (Cond.isRef (.static C n d)).before args s = true := by
  obtain ⟨cf, kf, fi, f, a, cell, v, h1, h2, h3, h4, h5, h6, h7, -⟩ := h
  rcases h7 with rfl | ⟨t, rfl⟩ <;> simp [Cond.before, Cond.holds, Cond.value, Term.eval, State.fieldNamed?, h1, h2, h3, h4, h5, h6]
theorem mx_Sf_lays {C n d : String} {s : State} {args : Array Value} (h : mx_Sf C n d s) : (Cond.laysStatic C n d).before args s = true := by
  obtain ⟨cf, kf, fi, f, a, cell, v, h1, h2, h3, h4, h5, h6, h7, h8, h9, h10, h11⟩ := h
  simp [Cond.before, Cond.holds, Cond.value, h8, h1, h3, h4, h2, h5, h9, h10, h11]
theorem mx_same_old {s t : State} {k n : Nat} (h : s.sameButNew t [] k n) {r : Nat} {cell : Cell} (hr : s.heap[r]? = some cell) : t.heap[r]? = some cell := by
  obtain ⟨c', h1, h2, h3, h4⟩ := h.2.2.2.2.2 r cell hr
  have e : c'.slots = cell.slots := by
    apply Array.ext h3
    intro i hi hi2
    have := h4 i (by simp)
    rw [Array.getElem?_eq_getElem hi, Array.getElem?_eq_getElem hi2] at this
    exact Option.some.inj this
  rw [h1, h2, e]
theorem mx_same_base {s t : State} {F : List Frame} {L : List Loc} {k n : Nat} (h : (s.setFrames F).sameButNew t L k n) : s.sameButNew t L k n := by
  obtain ⟨h1, h2⟩ := h
  refine ⟨?_, h2⟩
  rw [State.setFrames_setFrames] at h1
  exact h1
section MXT
variable {p : Program} {l : Launch} {e : Env} {R : Room} {s : State} {m : MethodId} {args : Array Value} {below : List Frame} {meth : Method} {c : Code} {Tt : State} {locs : List Loc}
/-- the same place, reckoned from the heap as it stands now -/
theorem mx_rebase (X : Stand p l e R s m args below meth c Tt locs 0 0) : Stand p l e R (Tt.setFrames (.invoking m args :: below)) m args below meth c Tt [] 0 0 := by
  obtain ⟨g₀, hfr⟩ := X.frames_eq
  have hcur : Tt.cur < Tt.threads.size := State.cur_lt_of_frames hfr
  have hf : (Tt.setFrames (.invoking m args :: below)).frames = .invoking m args :: below := State.frames_setFrames _ hcur
  have hm' : (Tt.setFrames (.invoking m args :: below)).vm.method? m = some meth := X.method'
  obtain ⟨th, hth, -⟩ := State.frames_cons hfr
  refine ⟨X.admits, X.cas, X.clock, hf, ?_, ?_, hm', X.code, X.here, X.tail, State.WarmedH.refl (Tt.setFrames (.invoking m args :: below)), ?_, ?_, ?_⟩
  · have hr := X.room
    have l1 := State.localsInUse_invoking X.frames X.method X.code
    have l2 := State.localsInUse_invoking hf hm' X.code
    have l3 : (Tt.setFrames (.invoking m args :: below)).localsInUse = s.localsInUse := by rw [l1, l2]
    have l4 : e.platform.stackLimits (Tt.setFrames (.invoking m args :: below)).me = e.platform.stackLimits s.me := by rw [State.stackLimits_setFrames]; exact X.limits
    have l5 : (Tt.setFrames (.invoking m args :: below)).me.stackBytes = s.me.stackBytes := by rw [State.stackBytes_setFrames]; exact X.bytes
    have l6 : (Tt.setFrames (.invoking m args :: below)).slotsTrue = true := X.book
    have l7 : (Tt.setFrames (.invoking m args :: below)).heap.size ≤ s.heap.size + 0 := X.heapSize
    have l8 : (Tt.setFrames (.invoking m args :: below)).slotsUsed ≤ s.slotsUsed + 0 := X.used
    simp only [State.hasRoom, Bool.and_eq_true, decide_eq_true_eq] at hr ⊢
    rw [l3, l4, l5, hf, l6]
    rw [X.frames] at hr
    obtain ⟨⟨⟨⟨r1, r2⟩, r3⟩, r4⟩, r5⟩ := hr
    exact ⟨⟨⟨⟨r1, r2⟩, by omega⟩, by omega⟩, rfl⟩
  · have hh := X.hears
    have e1 : ∀ mm, (Tt.setFrames (.invoking m args :: below)).code? mm = s.code? mm := fun mm => by
      rw [State.code?_eq, State.code?_eq]
      show (Tt.vm.method? mm).bind _ = _
      rw [X.warmed.alike.method?]
    cases below with
    | nil =>
      have e2 : (Tt.setFrames (.invoking m args :: [])).vm.method? m = s.vm.method? m := X.warmed.alike.method? m
      simp only [State.hears] at hh ⊢
      rw [e2]
      exact hh
    | cons f fs =>
      cases f <;> first
        | (simp only [State.hears] at hh ⊢; rw [e1]; exact hh)
        | (simp only [State.hears]; done)
        | (simp only [State.hears] at hh ⊢
           rw [show (Tt.setFrames _).vm.method? m = s.vm.method? m from X.warmed.alike.method? m]
           exact hh)
  · rw [State.stackLimits_setFrames]
  · rw [State.stackBytes_setFrames]
  · have hc2 : (Tt.setFrames (.invoking m args :: below)).cur < (Tt.setFrames (.invoking m args :: below)).threads.size := State.cur_lt_of_frames hf
    obtain ⟨th2, hth2, -⟩ := State.frames_cons hf
    have h := (State.sameButNew.refl (Tt.setFrames (.invoking m args :: below)) hth2).setFrames Tt.frames hc2
    rw [State.setFrames_setFrames, State.setFrames_self hth] at h
    exact h
end MXT
section MXU
variable {T : List Cond} {cl : List vw_C} {J : mx_J} {R : Room} {k : Nat} {ls : List Value} {hp : List va_E} {Q : mx_O → List va_E → Prop}
set_option maxHeartbeats 2000000 in
theorem mx_throw {idx ic : Nat} {st : List Value} (X : Nat) (hd0 : decode J.2.1 k = .ok (.new idx, 3)) (hd3 : decode J.2.1 (k + 3) = .ok (.dup, 1)) (hd4 : decode J.2.1 (k + 3 + 1) = .ok (.invokespecial ic, 3)) (hd7 : decode J.2.1 (k + 3 + 1 + 3) = .ok (.athrow, 1))
    (hG : mx_G T) (w1 : Cond.classLink J.1.cls idx (mx_xn X) ∈ T) (w2 : Cond.instantiable (mx_xn X) 6 ∈ T) (w3 : Cond.initialized (mx_xn X) ∈ T) (hfit : Bundle.fit (mx_xn X) = true)
    (hat : ∀ a ∈ Bundle.ownAtoms0 J.1.cls ic (mx_xn X) mx_up, a ∈ T ∨ a = .isRef (.static "java/lang/Throwable" "UNASSIGNED_STACK" "[Ljava/lang/StackTraceElement;") ∨ a = .isRef (.static "java/lang/Throwable" "SUPPRESSED_SENTINEL" "Ljava/util/List;") ∨ a = .laysStatic "java/lang/Throwable" "UNASSIGNED_STACK" "[Ljava/lang/StackTraceElement;" ∨ a = .laysStatic "java/lang/Throwable" "SUPPRESSED_SENTINEL" "Ljava/util/List;")
    (hRf : 5 < R.frames) (hRl : (st.map fun v => v.category).sum + 81 ≤ R.locals) (hRc : 1 ≤ R.cells) (hRs : 6 ≤ R.slots) (hQ : Q (.inr X) hp) : mx_W mx_K T cl J R k ls st hp Q := by
  intro l p e s m args below meth c D dT q A H locs lsA hC hl hP hD hS
  have hw := hC.2.2.2.2.2.1
  have hlocks : meth.locks = false := hC.2.2.2.2.2.2.2.1
  have hout : ∀ (pc : Nat), ∀ x ∈ c.exceptionTable.toList, covers x pc = false := fun pc x hx => by
    have h0 := hC.2.2.2.2.2.2.2.2.2.2.2
    rw [Array.isEmpty_iff.mp h0] at hx
    cases hx
  intro Tt hT Xs
  have hWm : s.WarmedH Tt.vm := Xs.warmed
  have hb' : (Tt.setFrames (.invoking m args :: below)).heap = H := hT
  have hkeep : ∀ (a : Nat) (cell : Cell), s.heap[a]? = some cell → cell.vm.isStatics = true → (Tt.setFrames (.invoking m args :: below)).heap[a]? = some cell := fun a cell h1 h2 => by
    rw [hb', hS.2.1 a (Array.getElem?_eq_some_iff.mp h1).1 (fun hA => by have := hC.2.2.2.2.2.2.2.2.2.1 a hA cell h1; rw [h2] at this; cases this)]
    exact h1
  have hZ := mx_Z0_moved (U := Tt.setFrames (.invoking m args :: below)) hWm.alike hkeep hC.2.2.2.2.2.2.2.2.2.2.1
  have hw' : ∀ w ∈ T, w.before args (Tt.setFrames (.invoking m args :: below)) = true := fun w h => mx_warm (U := Tt.setFrames (.invoking m args :: below)) (hG w h) hWm (hw w h)
  have hown : (Tt.setFrames (.invoking m args :: below)).vm.findClass J.1.cls = some m.cls := by
    show Tt.vm.findClass _ = _
    rw [hWm.alike.findClass]
    exact hC.2.2.2.2.1
  have hfin : ∀ (n : String), (Tt.setFrames (.invoking m args :: below)).vm.findClass n = s.vm.findClass n := fun n => hWm.alike.findClass n none
  have hat' : ∀ a ∈ Bundle.ownAtoms0 J.1.cls ic (mx_xn X) mx_up, a.before args (Tt.setFrames (.invoking m args :: below)) = true := fun a ha => by
    rcases hat a ha with h | rfl | rfl | rfl | rfl
    · exact hw' a h
    · exact mx_Sf_isRef hZ.2.1
    · exact mx_Sf_isRef hZ.2.2.1
    · exact mx_Sf_lays hZ.2.1
    · exact mx_Sf_lays hZ.2.2.1
  have X' := mx_rebase Xs
  generalize hs' : Tt.setFrames (.invoking m args :: below) = s' at X' hw' hown hat' hb' hfin hZ
  have key : W p l e R s' m args below meth c H [] 0 0 (fun t => t.status = .running ∧ Ended t below (.threw H.size) ∧ s'.WarmedH t.vm ∧ s'.sameButNew ({ t with vm := s'.vm } : State) [] 1 6 ∧ ∃ ce, t.heap[H.size]? = some ce ∧ Bundle.OwnCell args s' (mx_xn X) H.size .null ce) (F0 m k lsA (st.map (mx_v q))) := by
    refine W.newc hC.1 hC.2.1 hown (hw' _ w1) (hw' _ w2) (hw' _ w3) rfl hd0 (by omega) (by omega) (fun cX kX hfc hkX hord hsz => ?_)
    refine lv_dup (pc := k + 3) hC.1 hC.2.1 hd3 rfl ?_
    intro T2 hT2 X2
    obtain ⟨U, h1, h2, h3, h4, h5, ce, h6, h7⟩ := X2.ctorThrow0 hC.1 (hZ.1 e X2.admits) (own := J.1.cls) (cls := mx_xn X) (names := mx_up) (ic := ic) hown hfit (by decide +kernel) hat' (fun x hx => by cases hx) hfc hkX (a := H.size) (by rw [hT2]; exact Array.getElem?_push_size) (by rw [hb']; exact Nat.le_refl _) (g := F0 m (k + 3 + 1) lsA (.ref H.size :: .ref H.size :: st.map (mx_v q))) rfl (hl.1.trans hC.2.2.2.1.symm) rfl rfl rfl (by rw [hC.2.1]; exact hd4) (by rw [hC.2.1]; exact hd7) (hout _) hRf (by
        have e1 : ((st.map (mx_v q)).map fun v => v.category).sum = (st.map fun v => v.category).sum := by rw [List.map_map]; simp [Function.comp_def, mx_v_cat]
        show 2 * 0 + ((1 : Nat) + ((st.map (mx_v q)).map fun v => v.category).sum) + (13 * (2 + 1) + 41) ≤ R.locals
        rw [e1]
        omega) hlocks
    exact ⟨U, h1, h2, h3, h4, h5, ce, h6, h7⟩
  obtain ⟨t, a1, b1, b2, b3, b4, ce, b6, b7⟩ := key Tt hT X'
  have hold : ∀ r : Nat, r < H.size → t.heap[r]? = H[r]? := fun r hr => by
    have h1 : s'.heap[r]? = some H[r] := by rw [hb']; exact Array.getElem?_eq_getElem hr
    have h2 := mx_same_old b4 h1
    rw [Array.getElem?_eq_getElem hr]
    exact h2
  have hsz : H.size ≤ t.heap.size := by
    have h1 := b4.2.1
    rw [hb'] at h1
    exact h1
  refine ⟨t, a1, .threw H.size, .inr X, hp, b1, b2, hQ, hP.kept (fun j x hx => hold x.1 (hP j x hx).lt), hD, ⟨Nat.le_trans hS.1 hsz, fun r h1 h2 => ?_⟩, H.size, rfl, ⟨hS.1, ce, b6, ?_, b7.vm⟩, locs, ⟨⟨_, rfl⟩, ?_, ?_⟩, hS.2.2⟩
  · rw [hold r (Nat.lt_of_lt_of_le h1 hS.1)]
    exact hS.2.1 r h1 h2
  · rw [← hfin]
    exact b7.cls
  · refine State.WarmedH.trans hWm ?_
    rw [← hs'] at b3
    exact b3
  · rw [← hs'] at b4
    have h1 := mx_same_base b4
    have h2 := Xs.same.trans (h1.setVm s.vm)
    rw [List.append_nil] at h2
    exact h2
end MXU
