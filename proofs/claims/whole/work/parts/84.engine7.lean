/-! The engine, seventh part: a picture cut in parts; a call that reaches one part alone. -/
theorem va_D_cut {A : Nat → Prop} {w1 w2 : va_W} (h : va_D A (w1 ++ w2)) : va_D A w1 ∧ va_D A w2 ∧ ∀ (i j : Nat) (x y : Nat × va_E), w1[i]? = some x → w2[j]? = some y → x.1 ≠ y.1 := by
  have l1 : ∀ (i : Nat) (x : Nat × va_E), w1[i]? = some x → (w1 ++ w2)[i]? = some x := fun i x hx => by
    rw [List.getElem?_append_left ((List.getElem?_eq_some_iff.mp hx).1)]
    exact hx
  have l2 : ∀ (j : Nat) (y : Nat × va_E), w2[j]? = some y → (w1 ++ w2)[w1.length + j]? = some y := fun j y hy => by
    rw [List.getElem?_append_right (by omega), show w1.length + j - w1.length = j by omega]
    exact hy
  refine ⟨⟨fun i j p q hp hq e => h.1 i j p q (l1 i p hp) (l1 j q hq) e, fun k q hq => h.2 k q (l1 k q hq)⟩, ⟨fun i j p q hp hq e => ?_, fun k q hq => h.2 _ q (l2 k q hq)⟩, fun i j x y hx hy e => ?_⟩
  · have := h.1 _ _ p q (l2 i p hp) (l2 j q hq) e
    omega
  · have h1 := h.1 _ _ x y (l1 i x hx) (l2 j y hy) e
    have h2 := (List.getElem?_eq_some_iff.mp hx).1
    omega
theorem va_P_cut {D : va_G} {cl : List vw_C} {w1 w2 : va_W} {H : Heap} (h : va_P D cl (w1 ++ w2) H) : va_P D cl w1 H ∧ va_P D cl w2 H := by
  refine ⟨fun i x hx => h i x ?_, fun j y hy => h (w1.length + j) y ?_⟩
  · rw [List.getElem?_append_left ((List.getElem?_eq_some_iff.mp hx).1)]
    exact hx
  · rw [List.getElem?_append_right (by omega), show w1.length + j - w1.length = j by omega]
    exact hy
theorem mx_join {D : va_G} {cl : List vw_C} {A : Nat → Prop} {w1 wc w2 wc' : va_W} {H H1 : Heap} (hP : va_P D cl (w1 ++ (wc ++ w2)) H) (hD : va_D A (w1 ++ (wc ++ w2))) (hk : ∀ r : Nat, r < H.size → ¬ va_A wc H.size r → H1[r]? = H[r]?) (hF : ∀ r, va_A wc H.size r → A r) (hP1 : va_P D cl wc' H1) (hD1 : va_D (va_A wc H.size) wc') : va_P D cl (w1 ++ (wc' ++ w2)) H1 ∧ va_D A (w1 ++ (wc' ++ w2)) := by
  obtain ⟨p1, p23⟩ := va_P_cut hP
  obtain ⟨pc, p2⟩ := va_P_cut p23
  obtain ⟨d1, d23, n1⟩ := va_D_cut hD
  obtain ⟨dc, d2, n2⟩ := va_D_cut d23
  have ap1 : ∀ (k : Nat) (x : Nat × va_E), w1[k]? = some x → x.1 < H.size ∧ ¬ va_A wc H.size x.1 := fun k x hx => ⟨(p1 k x hx).lt, fun h => by
    rcases h with ⟨j, e, h⟩ | h
    · exact n1 k j x (x.1, e) hx (by rw [List.getElem?_append_left ((List.getElem?_eq_some_iff.mp h).1)]; exact h) rfl
    · have := (p1 k x hx).lt; omega⟩
  have ap2 : ∀ (k : Nat) (x : Nat × va_E), w2[k]? = some x → x.1 < H.size ∧ ¬ va_A wc H.size x.1 := fun k x hx => ⟨(p2 k x hx).lt, fun h => by
    rcases h with ⟨j, e, h⟩ | h
    · exact n2 j k (x.1, e) x h hx rfl
    · have := (p2 k x hx).lt; omega⟩
  refine ⟨va_P.app (fun k x hx => (p1 k x hx).kept (hk x.1 (ap1 k x hx).1 (ap1 k x hx).2)) (va_P.app hP1 (fun k x hx => (p2 k x hx).kept (hk x.1 (ap2 k x hx).1 (ap2 k x hx).2))), va_D.app d1 (va_D.app (hD1.weaken (fun _ y _ h => hF y.1 h)) d2 (fun i j x y hx hy e => (ap2 j y hy).2 (by rw [← e]; exact hD1.2 i x hx))) (fun i j x y hx hy e => ?_)⟩
  by_cases hj : j < wc'.length
  · rw [List.getElem?_append_left hj] at hy
    exact (ap1 i x hx).2 (by rw [e]; exact hD1.2 j y hy)
  · rw [List.getElem?_append_right (by omega)] at hy
    exact n1 i (wc.length + (j - wc'.length)) x y hx (by rw [List.getElem?_append_right (by omega), show wc.length + (j - wc'.length) - wc.length = j - wc'.length by omega]; exact hy) e
theorem mx_w_app (q : Nat → Nat) (dT : Nat → ClassId) (a b : List va_E) : mx_w q dT (a ++ b) = mx_w q dT a ++ b.mapIdx (fun i x => (q (i + a.length), mx_e q dT x)) := by
  simp [mx_w, List.mapIdx_append]
theorem mx_w_off (q : Nat → Nat) (dT : Nat → ClassId) (o : Nat) (b : List va_E) : (b.map (mx_e (fun k => k + o) (fun t => t))).mapIdx (fun i x => (q (i + o), mx_e q dT x)) = mx_w (fun k => q (k + o)) dT b := by
  apply List.ext_getElem?
  intro i
  rw [List.getElem?_mapIdx, List.getElem?_map]
  unfold mx_w
  rw [List.getElem?_mapIdx]
  cases b[i]? with
  | none => rfl
  | some x =>
    show some (q (i + o), mx_e q dT (mx_e (fun k => k + o) (fun t => t) x)) = some (q (i + o), mx_e (fun k => q (k + o)) dT x)
    rw [mx_e_e]
theorem mx_metV {K : Nat → Addr → State → State → Prop} {T : List Cond} {cl : List vw_C} {J : mx_J} {R : Room} {hp : List va_E} {Q : mx_O → List va_E → Prop} {vs : List Value} (l : Launch) (D : va_G) (dT : Nat → ClassId) (q : Nat → Nat) (sz mc ms : Nat)
    (hy : plainName J.1.cls = true) (hc : mx_cat1 vs = true) (hlen : vs.length ≤ J.2.2.1) (hW : mx_W K T cl J R 0 (mx_pad vs J.2.2.1) [] hp Q) (hQ : ∀ X hp', ¬ Q (.inr X) hp') :
    Met l J.1 (Cond.code J.1 J.2.1 J.2.2.1 J.2.2.2 :: T) R (mx_Pc l D cl dT q sz vs hp) (mx_Qc D cl dT q (va_A (mx_w q dT hp) sz) Q) mc ms (va_A (mx_w q dT hp) sz) := by
  refine Met.ofW (cc := J.2.1) (maxL := J.2.2.1) (ret := J.2.2.2) hy rfl ?_
  intro p e s m args below meth c s₁ B hml hv
  obtain ⟨rfl, hsz, hP, hK, hD0, hZ0⟩ := hv
  subst hsz
  have hts := atoms_spec (ws := Cond.code J.1 J.2.1 J.2.2.1 J.2.2.2 :: T) B.pre
  rw [lg_entry_eq]
  refine mx_Wmono ?_ (hW l p e s m _ below meth c D dT q _ s.heap [] _ ⟨B.exec, B.bytes, B.returns, hml, findClass_of_methodNamed B.named, fun w hw => hts w (List.mem_cons_of_mem _ hw), hK, B.notSynchronized, fun r h => Or.inr h, mx_nostat hP, hZ0, B.noHandlers (hts _ List.mem_cons_self)⟩ (mx_entry hc hlen) hP hD0.self va_S.rf)
  intro t ht
  obtain ⟨o, r, hp', h1, h2, h3, h4, h5, h6, h7⟩ := ht
  cases r with
  | inl v =>
    obtain ⟨rfl, L, hF, hL⟩ := h7
    exact ⟨_, h1, h2, ⟨v, hp', rfl, h3, h4, h5, h6⟩, L, ⟨hF.1, hF.2.1, hF.2.2.weaken (fun x hx _ => hx) (Nat.zero_le _) (Nat.zero_le _)⟩, hL⟩
  | inr X => exact absurd h3 (hQ X hp')
section MB3
variable {T : List Cond} {cl : List vw_C} {J : mx_J} {R : Room} {tb : List ExceptionTableEntry} {X : Option (Nat × (Nat → Int32))} {Z : mx_ZT} {n9 z9 k : Nat} {ls : List Value}
/-- behind a call over one part -/
theorem mb_after {p : Program} {l : Launch} {e : Env} {s : State} {m : MethodId} {args : Array Value} {below : List Frame} {meth : Method} {c : Code} {D : va_G} {dT : Nat → ClassId} {q q2 : Nat → Nat} {A : Nat → Prop} {H : Heap} {locs : List Loc} {lsA : Array Slot} {st0 rest : List Value} {mc ms : Nat} {hp hpc : List va_E} {w1 w2 : va_W} {Qa : State → Outcome → State → Prop} {Qc : Option Value → List va_E → Prop}
    (hr : va_Run p l e R s m args below meth c H locs n9 z9 mc ms (F0 m k lsA st0) (rest.map (mx_v q)) Qa (va_A (mx_w q2 dT hpc) H.size))
    (hQa : ∀ st o t, Qa st o t → ∃ (v : Option Value) (h : List va_E), o = .returned (v.map (mx_v q2)) ∧ Qc v h ∧ va_P D cl (mx_w q2 dT h) t.heap ∧ va_D (va_A (mx_w q2 dT hpc) H.size) (mx_w q2 dT h) ∧ va_F (va_A (mx_w q2 dT hpc) H.size) st t)
    (hsp : mx_w q dT hp = w1 ++ (mx_w q2 dT hpc ++ w2)) (hC : mx_D T cl J tb X l p s m args meth c D dT A q) (hl : lv_has lsA J.2.2.1 (mx_l q ls)) (hP : va_P D cl (mx_w q dT hp) H) (hD : va_D A (mx_w q dT hp)) (hS : va_S A s.heap H locs)
    (next : ∀ v h, Qc v h → ∃ h2, mx_w q dT h2 = w1 ++ (mx_w q2 dT h ++ w2) ∧ v.map (mx_v q2) = v.map (mx_v q) ∧ mx_B T cl J R tb X Z false (n9 + mc) (z9 + ms) (k + 3) ls (v.toList ++ rest) h2) :
    W p l e R s m args below meth c H locs n9 z9 (Z D dT q A below args s) (F0 m k lsA st0) := by
  rw [hsp] at hP hD
  obtain ⟨-, p23⟩ := va_P_cut hP
  obtain ⟨-, d23, -⟩ := va_D_cut hD
  obtain ⟨dc, -, -⟩ := va_D_cut d23
  have hA : ∀ r, va_A (mx_w q2 dT hpc) H.size r → A r := by
    intro r h
    rcases h with ⟨j, x, h⟩ | h
    · exact dc.2 j _ h
    · exact hC.2.2.2.2.2.2.2.2.1 r (Nat.le_trans hS.1 h)
  intro Tt hT Xs
  obtain ⟨v, st₀, t, T', L, h0, X', hL, e1, e2, hqa, st⟩ := hr Tt hT Xs
  obtain ⟨w, hp', hv, hq, hP1, hD1, hz, hk⟩ := hQa _ _ _ hqa
  have hv := Outcome.returned.inj hv
  subst hv
  rw [h0] at hz hk
  have hS1 : va_S A s.heap T'.heap (locs ++ L) := ⟨Nat.le_trans hS.1 (by rw [e1]; exact hz), fun r h1 h2 => by rw [e1, hk r (Nat.lt_of_lt_of_le h1 hS.1) (fun z => h2 (hA r z))]; exact hS.2.1 r h1 h2, fun r hr => by
    rcases List.mem_append.mp hr with h | h
    · exact hS.2.2 r h
    · exact hA _ (hL r h)⟩
  obtain ⟨h2, hs2, hvv, kk⟩ := next w hp' hq
  obtain ⟨g1, g2⟩ := mx_join (H1 := T'.heap) hP hD (fun r h1 h2 => by rw [e1]; exact hk r h1 h2) hA (by rw [e1]; exact hP1) hD1
  rw [← hs2] at g1 g2
  obtain ⟨t2, a1, b1⟩ := kk l p e s m args below meth c D dT q A T'.heap (locs ++ L) lsA hC hl (fun h => Bool.noConfusion h) g1 g2 hS1 T' rfl X'
  refine ⟨t2, st t2 ?_, b1⟩
  rw [hvv]
  cases w <;> exact a1
/-- a virtual call that reaches one part of the picture and doesn't throw -/
theorem mb_VL {J' : mx_J} {R' : Room} {idx n bb ci mc ms : Nat} {fs : List Value} {r : vw_C} {st : List Value} {hpc : List va_E} {Qc : mx_O → List va_E → Prop} (φ : Nat → Nat) (put : List va_E → List va_E) (w1 w2 : (Nat → Nat) → (Nat → ClassId) → va_W) (as rest : List Value) (hd : decode J.2.1 k = .ok (.invokevirtual idx, 3)) (hst : st = as.reverse ++ .ref bb :: rest) (hbb : φ 0 = bb) (hG : mx_G T) (hok : mx_ok T J' n) (hV : Cond.instanceMethod J'.1 ∈ T ∧ Cond.selects J'.1.cls J'.1 J'.1 ∈ T) (hlk : Cond.methodLink J.1.cls idx J'.1 ∈ T) (hRc : R'.cells = mc ∧ R'.slots = ms ∧ R'.frames + 1 ≤ R.frames ∧ 8 + (J'.2.2.1 + 11) + R'.locals ≤ R.locals) (hn : as.length = n) (hc1 : mx_cat1 (.ref 0 :: as) = true) (has : ∀ q q2, as.map (mx_v q) = as.map (mx_v q2)) (hle : (.ref 0 :: as).length ≤ J'.2.2.1) (hrest : (rest.map fun v => v.category).sum ≤ 8) (hb : hpc[0]? = some (.inr (ci, fs))) (hci : cl[ci]? = some r) (hr : r.1 = J'.1.cls)
    (hput : ∀ h : List va_E, h.length = hpc.length → ∀ q dT, mx_w q dT (put h) = w1 q dT ++ (mx_w (fun j => q (φ j)) dT h ++ w2 q dT))
    (hW : mx_W mx_K T cl J' R' 0 (mx_pad (.ref 0 :: as) J'.2.2.1) [] hpc Qc) (hQc : ∀ Y h, ¬ Qc (.inr Y) h) (hQl : ∀ v h, Qc (.inl v) h → h.length = hpc.length ∧ (v = none ∨ ∃ x, v = some (.int x)))
    (hcs : n9 + mc ≤ R.cells ∧ z9 + ms ≤ R.slots) (next : ∀ v h, Qc (.inl v) h → mx_B T cl J R tb X Z false (n9 + mc) (z9 + ms) (k + 3) ls (v.toList ++ rest) (put h)) : mx_B T cl J R tb X Z false n9 z9 k ls st (put hpc) := by
  subst hst
  subst hbb
  intro l p e s m args below meth c D dT q A H locs lsA hC hl hq hP hD hS
  have hw := hC.2.2.2.2.2.1
  have hsp := hput hpc rfl q dT
  have hM := mx_metV l D dT (fun j => q (φ j)) H.size mc ms hok.2.2.1 hc1 hle hW hQc
  have hr8 : ((rest.map (mx_v q)).map fun v => v.category).sum ≤ 8 := by rw [List.map_map]; simpa [Function.comp_def, mx_v_cat] using hrest
  obtain ⟨-, p23⟩ := va_P_cut (by rw [← hsp]; exact hP : va_P D cl (w1 q dT ++ (mx_w (fun j => q (φ j)) dT hpc ++ w2 q dT)) H)
  obtain ⟨hPc, -⟩ := va_P_cut p23
  obtain ⟨-, d23, -⟩ := va_D_cut (by rw [← hsp]; exact hD : va_D A (w1 q dT ++ (mx_w (fun j => q (φ j)) dT hpc ++ w2 q dT)))
  obtain ⟨hDc, -, -⟩ := va_D_cut d23
  have hpre : ∀ U : State, U.heap = H → s.WarmedH U.vm → mx_Pc l D cl dT (fun j => q (φ j)) H.size (.ref 0 :: as) hpc ((.ref 0 :: as).map (mx_v (fun j => q (φ j)))).toArray U := fun U hU hWm => ⟨rfl, by rw [hU], by rw [hU]; exact hPc, va_K.moved hWm.alike hC.2.2.2.2.2.2.1, hDc.weaken (fun _ _ _ _ => trivial), mx_Z0_moved hWm.alike (fun a cell h1 h2 => by rw [hU, hS.2.1 a (Array.getElem?_eq_some_iff.mp h1).1 (fun hA => by have := hC.2.2.2.2.2.2.2.2.2.1 a hA cell h1; rw [h2] at this; cases this)]; exact h1) hC.2.2.2.2.2.2.2.2.2.2.1⟩
  have hbl := mx_blind l D cl dT (fun j => q (φ j)) H.size (.ref 0 :: as) hpc
  refine W.eq (g2 := F0 m k lsA ((as.map (mx_v q)).reverse ++ .ref (q (φ 0)) :: rest.map (mx_v q))) (by simp [mx_v]) ?_
  have hrc : ∃ cell : Cell, H[q (φ 0)]? = some cell ∧ cell.vm.isStatics = false ∧ s.vm.findClass J'.1.cls = some cell.cls := by
    rw [← hr]
    exact va_recv hC.2.2.2.2.2.2.1 hPc hci (mx_w_get (q := fun j => q (φ j)) hb)
  have hrun : va_Run p l e R s m args below meth c H locs n9 z9 mc ms (F0 m k lsA ((as.map (mx_v q)).reverse ++ .ref (q (φ 0)) :: rest.map (mx_v q))) (rest.map (mx_v q)) (mx_Qc D cl dT (fun j => q (φ j)) (va_A (mx_w (fun j => q (φ j)) dT hpc) H.size) Qc ((.ref 0 :: as).map (mx_v (fun j => q (φ j)))).toArray) (va_A (mx_w (fun j => q (φ j)) dT hpc) H.size) := by
    have := va_runV (e := e) (below := below) (meth := meth) (As := as.map (mx_v (fun j => q (φ j)))) (b := q (φ 0)) (locs := locs) (cells := n9) (slots := z9) (rest := rest.map (mx_v q)) (g := F0 m k lsA ((as.map (mx_v q)).reverse ++ .ref (q (φ 0)) :: rest.map (mx_v q))) ⟨hC.1, hC.2.1, hC.2.2.2.1, hC.2.2.2.2.1, hw⟩ hM ⟨⟨hRc.1, hRc.2.1, hRc.2.2.1, hRc.2.2.2, mx_hws hG hok hw, List.mem_cons_self, hw _ hok.1, hw _ hok.2.1, ⟨hok.2.2.2.1, hok.2.2.2.2.1⟩, mx_par hok.2.2.2.2.2, hw _ hlk⟩, hw _ hV.1, hw _ hV.2⟩ ⟨hbl, hrc, hpre⟩ rfl (by simpa using hn) hl.1 (by rw [has (fun j => q (φ j)) q]) (lv_room hr8) hd hcs
    exact this
  refine mb_after (q2 := fun j => q (φ j)) (w1 := w1 q dT) (w2 := w2 q dT) (Qc := fun v h => Qc (.inl v) h) hrun (fun st o t h => ?_) hsp hC hl hP hD hS (fun v h hv => ?_)
  · obtain ⟨v, h2, a1, a2, a3, a4, a5⟩ := h
    exact ⟨v, h2, a1, a2, a3, a4, a5⟩
  · obtain ⟨e1, e2⟩ := hQl v h hv
    refine ⟨put h, hput h e1 q dT, ?_, next v h hv⟩
    rcases e2 with rfl | ⟨x, rfl⟩
    · rfl
    · rfl
end MB3
