/-! The engine, second half: a walk is a contract; calls by contract; System.arraycopy. -/
def mx_pad (vs : List Value) (n : Nat) : List Value := vs ++ List.replicate (n - vs.length) (.retAddr 0)
theorem mx_cat_of {vs : List Value} (h : mx_cat1 vs = true) : ∀ v ∈ vs, v.category = 1 := fun v hv => by
  have := List.all_eq_true.mp h v hv
  simpa using this
theorem mx_cat_map {q : Nat → Nat} {vs : List Value} (h : mx_cat1 vs = true) : ∀ v ∈ vs.map (mx_v q), v.category = 1 := fun v hv => by
  obtain ⟨u, hu, rfl⟩ := List.mem_map.mp hv
  rw [mx_v_cat]
  exact mx_cat_of h u hu
theorem mx_sl_len : ∀ (ws : List Value), (∀ v ∈ ws, v.category = 1) → (lg_sl ws).length = ws.length := by
  intro ws
  induction ws with
  | nil => intro _; rfl
  | cons v t ih =>
    intro h
    have h1 := h v List.mem_cons_self
    have h2 := ih (fun u hu => h u (List.mem_cons_of_mem _ hu))
    show ((if v.category = 2 then [Slot.val v, Slot.second] else [Slot.val v]) ++ lg_sl t).length = t.length + 1
    rw [if_neg (by omega), List.length_append, h2]
    simp
    omega
theorem mx_args_mem : ∀ (ws : List Value) (i : Nat), (∀ v ∈ ws, v.category = 1) → ∀ (j : Nat) (v : Value), ws[j]? = some v → (i + j, v) ∈ lv_args i ws := by
  intro ws
  induction ws with
  | nil => intro i _ j v h; simp at h
  | cons u t ih =>
    intro i h j v hj
    have h1 := h u List.mem_cons_self
    cases j with
    | zero =>
      simp at hj
      subst hj
      show (i + 0, u) ∈ (i, u) :: lv_args _ t
      exact List.mem_cons_self
    | succ j =>
      show (i + (j + 1), v) ∈ (i, u) :: lv_args (if u.category = 2 then i + 2 else i + 1) t
      rw [if_neg (by omega)]
      have := ih (i + 1) (fun w hw => h w (List.mem_cons_of_mem _ hw)) j v (by simpa using hj)
      rw [show i + (j + 1) = i + 1 + j by omega]
      exact List.mem_cons_of_mem _ this
theorem mx_entry {q : Nat → Nat} {vs : List Value} {n : Nat} (hc : mx_cat1 vs = true) (hlen : vs.length ≤ n) : lv_has ((lg_sl (vs.map (mx_v q)) ++ List.replicate (n - (lg_sl (vs.map (mx_v q))).length) Slot.unset).toArray) n (mx_l q (mx_pad vs n)) := by
  have hm := mx_cat_map (q := q) hc
  refine mx_has_mono (lv_entry (vs.map (mx_v q)) (n := n) (by rw [mx_sl_len _ hm]; simpa using hlen)) (fun x hx => ?_)
  obtain ⟨v, h1, h2, h3⟩ := mx_l_mem.mp hx
  obtain ⟨i, w⟩ := x
  dsimp only at h1 h3
  have hi : vs[i]? = some v := by
    unfold mx_pad at h1
    by_cases hlt : i < vs.length
    · rwa [List.getElem?_append_left hlt] at h1
    · rw [List.getElem?_append_right (by omega), List.getElem?_replicate] at h1
      split at h1
      · exact absurd (Option.some.inj h1).symm (h2 0)
      · cases h1
  have := mx_args_mem (vs.map (mx_v q)) 0 hm i (mx_v q v) (by rw [List.getElem?_map, hi]; rfl)
  rw [h3]
  simpa using this
def mx_Pc (l : Launch) (D : va_G) (cl : List vw_C) (dT : Nat → ClassId) (q : Nat → Nat) (sz : Nat) (vs : List Value) (hp : List va_E) : Array Value → State → Prop :=
  va_Pc (vs.map (mx_v q)) (fun U => U.heap.size = sz ∧ va_P D cl (mx_w q dT hp) U.heap ∧ va_K D cl (mx_tys dT) U ∧ va_D (fun _ => True) (mx_w q dT hp) ∧ mx_Z0 l U)
def mx_Qc (D : va_G) (cl : List vw_C) (dT : Nat → ClassId) (q : Nat → Nat) (A : Nat → Prop) (Q : mx_O → List va_E → Prop) : Array Value → State → Outcome → State → Prop := fun _ st o t =>
  ∃ (v : Option Value) (hp' : List va_E), o = .returned (v.map (mx_v q)) ∧ Q (.inl v) hp' ∧ va_P D cl (mx_w q dT hp') t.heap ∧ va_D A (mx_w q dT hp') ∧ va_F A st t
theorem mx_blind (l : Launch) (D : va_G) (cl : List vw_C) (dT : Nat → ClassId) (q : Nat → Nat) (sz : Nat) (vs : List Value) (hp : List va_E) : FrameBlind (mx_Pc l D cl dT q sz vs hp) := by
  intro a U g mk h
  obtain ⟨q0, q1, qP, qK, qD, qZ⟩ := h
  exact ⟨q0, q1, qP, va_K.moved (u := U) (U := U.calling g mk a) (Vm.Alike.refl U.vm) qK, qD, mx_Z0_moved (s := U) (U := U.calling g mk a) (Vm.Alike.refl U.vm) (fun _ _ h _ => h) qZ⟩
theorem mx_vmnone {cA : ClassId} {a : vp_A} : (vp_cell cA a).vm = .none := by
  obtain ⟨n, f | f | f | f | f⟩ := a <;> rfl
theorem mx_nostat {D : va_G} {cl : List vw_C} {ws : va_W} {H : Heap} (hP : va_P D cl ws H) : ∀ r : Nat, va_A ws H.size r → ∀ cell : Cell, H[r]? = some cell → cell.vm.isStatics = false := by
  intro r h cell hc
  rcases h with ⟨j, x, h⟩ | h
  · have h1 := hP j _ h
    cases x with
    | inl a =>
      have h2 : H[r]? = some (vp_cell a.1 a.2) := h1
      rw [hc] at h2
      rw [Option.some.inj h2, mx_vmnone]
      rfl
    | inr o =>
      obtain ⟨_, _, cell', e1, _, e3, _⟩ := h1
      have e1 : H[r]? = some cell' := e1
      rw [hc] at e1
      rw [Option.some.inj e1, e3]
      rfl
  · have := (Array.getElem?_eq_some_iff.mp hc).1
    omega
theorem mx_met {K : Nat → Addr → State → State → Prop} {T : List Cond} {cl : List vw_C} {J : mx_J} {R : Room} {hp : List va_E} {Q : mx_O → List va_E → Prop} {vs : List Value} (l : Launch) (D : va_G) (dT : Nat → ClassId) (q : Nat → Nat) (sz : Nat)
    (hy : plainName J.1.cls = true) (hc : mx_cat1 vs = true) (hlen : vs.length ≤ J.2.2.1) (hW : mx_W K T cl J R 0 (mx_pad vs J.2.2.1) [] hp Q) (hQ : ∀ X hp', ¬ Q (.inr X) hp') :
    Met l J.1 (Cond.code J.1 J.2.1 J.2.2.1 J.2.2.2 :: T) R (mx_Pc l D cl dT q sz vs hp) (mx_Qc D cl dT q (va_A (mx_w q dT hp) sz) Q) 0 0 (va_A (mx_w q dT hp) sz) := by
  refine Met.ofW (cc := J.2.1) (maxL := J.2.2.1) (ret := J.2.2.2) hy rfl ?_
  intro p e s m args below meth c s₁ B hml hv
  obtain ⟨rfl, hsz, hP, hK, hD0, hZ0⟩ := hv
  subst hsz
  have hts := atoms_spec (ws := Cond.code J.1 J.2.1 J.2.2.1 J.2.2.2 :: T) B.pre
  rw [lg_entry_eq]
  refine mx_Wmono ?_ (hW l p e s m _ below meth c D dT q _ s.heap [] _ ⟨B.exec, B.bytes, B.returns, hml, findClass_of_methodNamed B.named, fun w hw => hts w (List.mem_cons_of_mem _ hw), hK, B.notSynchronized, fun r h => Or.inr h, mx_nostat hP, hZ0, B.noHandlers (hts _ List.mem_cons_self)⟩ (mx_entry hc hlen) hP hD0.self va_S.rf)
  intro t ht
  obtain ⟨o, r, hp', h1, h2, h3, h4, h5, h6, h7⟩ := ht
  cases r with
  | inl v =>
    obtain ⟨rfl, L, hF, hL⟩ := h7
    exact ⟨_, h1, h2, ⟨v, hp', rfl, h3, h4, h5, h6⟩, L, hF, hL⟩
  | inr X => exact absurd h3 (hQ X hp')
def mx_gw (w : Cond) : Bool := (w.onTables && w.keeps) || match w with
  | .methodLinkNest .. => true
  | .fieldLinkNest .. => true
  | .arrayClass _ => true
  | .castable .. => true
  | .declares _ => true
  | _ => false
theorem mx_warm {w : Cond} {args a' : Array Value} {s U : State} (h : mx_gw w = true) (hW : s.WarmedH U.vm) (hb : w.before args s = true) : w.before a' U = true := by
  unfold mx_gw at h
  by_cases h1 : (w.onTables && w.keeps) = true
  · exact word_at hW (Or.inl h1) hb
  · rw [Bool.eq_false_iff.mpr h1, Bool.false_or] at h
    split at h
    · exact va_Nw.use rfl (va_Nw.warmM hW (va_Nw.of rfl hb))
    · exact va_Nw.use rfl (va_Nw.warmF hW (va_Nw.of rfl hb))
    · exact word_at hW (Or.inr ⟨_, rfl⟩) hb
    · exact va_tabs rfl (rfl : (s.setVm U.vm).vm = U.vm) (by rw [Cond.castable_setVm hW.alike]; exact hb)
    · exact va_Nw.use rfl (va_Nw.warmD hW (va_Nw.of rfl hb))
    · cases h
def mx_G (T : List Cond) : Prop := ∀ w ∈ T, mx_gw w = true
def mx_ok (T : List Cond) (J : mx_J) (n : Nat) : Prop := Cond.code J.1 J.2.1 J.2.2.1 J.2.2.2 ∈ T ∧ Cond.initialized J.1.cls ∈ T ∧ plainName J.1.cls = true ∧ J.1.cls ≠ "java/lang/invoke/MethodHandle" ∧ J.1.cls ≠ "java/lang/invoke/VarHandle" ∧ (parseMethodDescriptor J.1.desc).map (fun d => d.parameters.length) = some n
def mx_lk (T : List Cond) (own : String) (idx : Nat) (y : MethodName) : Prop := Cond.methodLink own idx y ∈ T ∨ ∃ host, Cond.methodLinkNest own idx y host ∈ T
def mx_rm (R' R : Room) (nL : Nat) : Prop := R'.cells = 0 ∧ R'.slots = 0 ∧ R'.frames + 1 ≤ R.frames ∧ 8 + (nL + 11) + R'.locals ≤ R.locals
theorem mx_hws {T : List Cond} {J : mx_J} {n : Nat} {args : Array Value} {s : State} (hG : mx_G T) (hok : mx_ok T J n) (hw : ∀ w ∈ T, w.before args s = true) : ∀ w ∈ Cond.code J.1 J.2.1 J.2.2.1 J.2.2.2 :: T, ∀ (a' : Array Value) (U : State), s.WarmedH U.vm → w.before a' U = true := by
  intro w h a' U hW
  have h1 : w ∈ T := by
    rcases List.mem_cons.mp h with rfl | h
    · exact hok.1
    · exact h
  exact mx_warm (hG w h1) hW (hw w h1)
theorem mx_par {y : MethodName} {n : Nat} (h : (parseMethodDescriptor y.desc).map (fun d => d.parameters.length) = some n) : ∀ sig, parseMethodDescriptor y.desc = some sig → n = sig.parameters.length := fun sig h2 => by
  rw [h2] at h
  exact (Option.some.inj h).symm
theorem mx_callB {T : List Cond} {J' : mx_J} {R' R : Room} {n idx : Nat} {own : String} {args : Array Value} {s : State} (hG : mx_G T) (hok : mx_ok T J' n) (hw : ∀ w ∈ T, w.before args s = true) (hRm : mx_rm R' R J'.2.2.1) (hlk : Cond.methodLink own idx J'.1 ∈ T) : CallB R s args own idx J'.1 J'.2.1 J'.2.2.1 J'.2.2.2 (Cond.code J'.1 J'.2.1 J'.2.2.1 J'.2.2.2 :: T) R' 0 0 n :=
  ⟨hRm.1, hRm.2.1, hRm.2.2.1, hRm.2.2.2, mx_hws hG hok hw, List.mem_cons_self, hw _ hok.1, hw _ hok.2.1, ⟨hok.2.2.2.1, hok.2.2.2.2.1⟩, mx_par hok.2.2.2.2.2, hw _ hlk⟩
theorem mx_callN {T : List Cond} {J' : mx_J} {R' R : Room} {n idx : Nat} {own host : String} {args : Array Value} {s : State} (hG : mx_G T) (hok : mx_ok T J' n) (hw : ∀ w ∈ T, w.before args s = true) (hRm : mx_rm R' R J'.2.2.1) (hlk : Cond.methodLinkNest own idx J'.1 host ∈ T) : va_CN R s args own idx J'.1 host J'.2.1 J'.2.2.1 J'.2.2.2 (Cond.code J'.1 J'.2.1 J'.2.2.1 J'.2.2.2 :: T) R' 0 0 n :=
  ⟨⟨hRm.1, hRm.2.1, hRm.2.2.1, hRm.2.2.2, mx_hws hG hok hw, List.mem_cons_self⟩, hw _ hok.1, hw _ hok.2.1, ⟨hok.2.2.2.1, hok.2.2.2.2.1⟩, mx_par hok.2.2.2.2.2, hw _ hlk⟩
section MXC
variable {K : Nat → Addr → State → State → Prop} {T : List Cond} {cl : List vw_C} {J : mx_J} {R : Room} {k : Nat} {ls rest : List Value} {hp : List va_E} {Q : mx_O → List va_E → Prop}
theorem mx_after {p : Program} {l : Launch} {e : Env} {s : State} {m : MethodId} {args : Array Value} {below : List Frame} {meth : Method} {c : Code} {D : va_G} {dT : Nat → ClassId} {q : Nat → Nat} {A : Nat → Prop} {H : Heap} {locs : List Loc} {lsA : Array Slot} {st0 : List Value} {av : Array Value} {Qc : mx_O → List va_E → Prop}
    (hr : va_Run p l e R s m args below meth c H locs 0 0 0 0 (F0 m k lsA st0) (rest.map (mx_v q)) (mx_Qc D cl dT q (va_A (mx_w q dT hp) H.size) Qc av) (va_A (mx_w q dT hp) H.size))
    (hC : mx_C T cl J l p s m args meth c D dT A) (hl : lv_has lsA J.2.2.1 (mx_l q ls)) (hP : va_P D cl (mx_w q dT hp) H) (hD : va_D A (mx_w q dT hp)) (hS : va_S A s.heap H locs)
    (next : ∀ v hp', Qc (.inl v) hp' → mx_W K T cl J R (k + 3) ls (v.toList ++ rest) hp' Q) :
    W p l e R s m args below meth c H locs 0 0 (mx_Z K D cl dT q A Q below s) (F0 m k lsA st0) := by
  have hA : ∀ r, va_A (mx_w q dT hp) H.size r → A r := by
    intro r h
    rcases h with ⟨j, x, h⟩ | h
    · exact hD.2 j _ h
    · exact hC.2.2.2.2.2.2.2.2.1 r (Nat.le_trans hS.1 h)
  intro Tt hT X
  obtain ⟨v, st₀, t, T', L, h0, X', hL, e1, e2, ⟨w, hp', hv, hq, hP1, hD1, hz, hk⟩, st⟩ := hr Tt hT X
  have hv := Outcome.returned.inj hv
  subst hv
  rw [h0] at hz hk
  have hS1 : va_S A s.heap T'.heap (locs ++ L) := ⟨Nat.le_trans hS.1 (by rw [e1]; exact hz), fun r h1 h2 => by rw [e1, hk r (Nat.lt_of_lt_of_le h1 hS.1) (fun z => h2 (hA r z))]; exact hS.2.1 r h1 h2, fun r hr => by
    rcases List.mem_append.mp hr with h | h
    · exact hS.2.2 r h
    · exact hA _ (hL r h)⟩
  obtain ⟨t2, a1, b1⟩ := next w hp' hq l p e s m args below meth c D dT q A T'.heap (locs ++ L) lsA hC hl (by rw [e1]; exact hP1) (hD1.weaken (fun _ y _ h => hA y.1 h)) hS1 T' rfl X'
  refine ⟨t2, st t2 ?_, b1⟩
  cases w <;> exact a1

theorem mx_V {J' : mx_J} {R' : Room} {idx n : Nat} {b ci : Nat} {fs : List Value} {r : vw_C} {st : List Value} {Qc : mx_O → List va_E → Prop} (as rest : List Value) (hd : decode J.2.1 k = .ok (.invokevirtual idx, 3)) (hst : st = as.reverse ++ .ref b :: rest) (hG : mx_G T) (hok : mx_ok T J' n) (hV : Cond.instanceMethod J'.1 ∈ T ∧ Cond.selects J'.1.cls J'.1 J'.1 ∈ T) (hlk : mx_lk T J.1.cls idx J'.1) (hRm : mx_rm R' R J'.2.2.1) (hn : as.length = n) (hc1 : mx_cat1 (.ref b :: as) = true) (hle : (.ref b :: as).length ≤ J'.2.2.1) (hrest : (rest.map fun v => v.category).sum ≤ 8) (hb : hp[b]? = some (.inr (ci, fs))) (hci : cl[ci]? = some r) (hr : r.1 = J'.1.cls) 
    (hW : mx_W K T cl J' R' 0 (mx_pad (.ref b :: as) J'.2.2.1) [] hp Qc) (hQc : ∀ X hp', ¬ Qc (.inr X) hp') (next : ∀ v hp', Qc (.inl v) hp' → mx_W K T cl J R (k + 3) ls (v.toList ++ rest) hp' Q) : mx_W K T cl J R k ls st hp Q := by
  subst hst
  intro l p e s m args below meth c D dT q A H locs lsA hC hl hP hD hS
  have hw := hC.2.2.2.2.2.1
  have hM := mx_met l D dT q H.size hok.2.2.1 hc1 hle hW hQc
  have hr8 : ((rest.map (mx_v q)).map fun v => v.category).sum ≤ 8 := by rw [List.map_map]; simpa [Function.comp_def, mx_v_cat] using hrest
  have hpre : ∀ U : State, U.heap = H → s.WarmedH U.vm → mx_Pc l D cl dT q H.size (.ref b :: as) hp ((.ref b :: as).map (mx_v q)).toArray U := fun U hU hWm => ⟨rfl, by rw [hU], by rw [hU]; exact hP, va_K.moved hWm.alike hC.2.2.2.2.2.2.1, hD.weaken (fun _ _ _ _ => trivial), mx_Z0_moved hWm.alike (fun a cell h1 h2 => by rw [hU, hS.2.1 a (Array.getElem?_eq_some_iff.mp h1).1 (fun hA => by have := hC.2.2.2.2.2.2.2.2.2.1 a hA cell h1; rw [h2] at this; cases this)]; exact h1) hC.2.2.2.2.2.2.2.2.2.2.1⟩
  have hbl := mx_blind l D cl dT q H.size (.ref b :: as) hp
  refine W.eq (g2 := F0 m k lsA ((as.map (mx_v q)).reverse ++ .ref (q b) :: rest.map (mx_v q))) (by simp [mx_v]) ?_
  have hrc : ∃ cell : Cell, H[q b]? = some cell ∧ cell.vm.isStatics = false ∧ s.vm.findClass J'.1.cls = some cell.cls := by
    rw [← hr]
    exact va_recv hC.2.2.2.2.2.2.1 hP hci (mx_w_get hb)
  rcases hlk with hlk | ⟨host, hlk⟩
  · exact mx_after (va_runV ⟨hC.1, hC.2.1, hC.2.2.2.1, hC.2.2.2.2.1, hw⟩ hM ⟨mx_callB hG hok hw hRm hlk, hw _ hV.1, hw _ hV.2⟩ ⟨hbl, hrc, hpre⟩ rfl (by simpa using hn) hl.1 rfl (lv_room hr8) hd ⟨Nat.zero_le _, Nat.zero_le _⟩) hC hl hP hD hS next
  · exact mx_after (va_runVN ⟨hC.1, hC.2.1, hC.2.2.2.1, hC.2.2.2.2.1, hw⟩ hM ⟨mx_callN hG hok hw hRm hlk, hw _ hV.1, hw _ hV.2⟩ ⟨hbl, hrc, hpre⟩ rfl (by simpa using hn) hl.1 rfl (lv_room hr8) hd ⟨Nat.zero_le _, Nat.zero_le _⟩) hC hl hP hD hS next
theorem mx_S {J' : mx_J} {R' : Room} {idx n : Nat} {st : List Value} {Qc : mx_O → List va_E → Prop} (as rest : List Value) (hd : decode J.2.1 k = .ok (.invokestatic idx, 3)) (hst : st = as.reverse ++ rest) (hG : mx_G T) (hok : mx_ok T J' n) (hV : Cond.static J'.1 ∈ T) (hlk : mx_lk T J.1.cls idx J'.1) (hRm : mx_rm R' R J'.2.2.1) (hn : as.length = n) (hc1 : mx_cat1 as = true) (hle : as.length ≤ J'.2.2.1) (hrest : (rest.map fun v => v.category).sum ≤ 8) 
    (hW : mx_W K T cl J' R' 0 (mx_pad as J'.2.2.1) [] hp Qc) (hQc : ∀ X hp', ¬ Qc (.inr X) hp') (next : ∀ v hp', Qc (.inl v) hp' → mx_W K T cl J R (k + 3) ls (v.toList ++ rest) hp' Q) : mx_W K T cl J R k ls st hp Q := by
  subst hst
  intro l p e s m args below meth c D dT q A H locs lsA hC hl hP hD hS
  have hw := hC.2.2.2.2.2.1
  have hM := mx_met l D dT q H.size hok.2.2.1 hc1 hle hW hQc
  have hr8 : ((rest.map (mx_v q)).map fun v => v.category).sum ≤ 8 := by rw [List.map_map]; simpa [Function.comp_def, mx_v_cat] using hrest
  have hpre : ∀ U : State, U.heap = H → s.WarmedH U.vm → mx_Pc l D cl dT q H.size as hp (as.map (mx_v q)).toArray U := fun U hU hWm => ⟨rfl, by rw [hU], by rw [hU]; exact hP, va_K.moved hWm.alike hC.2.2.2.2.2.2.1, hD.weaken (fun _ _ _ _ => trivial), mx_Z0_moved hWm.alike (fun a cell h1 h2 => by rw [hU, hS.2.1 a (Array.getElem?_eq_some_iff.mp h1).1 (fun hA => by have := hC.2.2.2.2.2.2.2.2.2.1 a hA cell h1; rw [h2] at this; cases this)]; exact h1) hC.2.2.2.2.2.2.2.2.2.2.1⟩
  have hbl := mx_blind l D cl dT q H.size as hp
  refine W.eq (g2 := F0 m k lsA ((as.map (mx_v q)).reverse ++ rest.map (mx_v q))) (by simp [mx_v]) ?_
  rcases hlk with hlk | ⟨host, hlk⟩
  · exact mx_after (va_runS ⟨hC.1, hC.2.1, hC.2.2.2.1, hC.2.2.2.2.1, hw⟩ hM ⟨mx_callB hG hok hw hRm hlk, hw _ hV⟩ ⟨hbl, hpre⟩ rfl (by simpa using hn) hl.1 rfl (lv_room hr8) hd ⟨Nat.zero_le _, Nat.zero_le _⟩) hC hl hP hD hS next
  · exact mx_after (va_runSN ⟨hC.1, hC.2.1, hC.2.2.2.1, hC.2.2.2.2.1, hw⟩ hM ⟨mx_callN hG hok hw hRm hlk, hw _ hV, trivial⟩ ⟨hbl, hpre⟩ rfl (by simpa using hn) hl.1 rfl (lv_room hr8) hd ⟨Nat.zero_le _, Nat.zero_le _⟩) hC hl hP hD hS next
theorem mx_copyi {idx b0 b1 n0 n1 : Nat} {f g : Nat → Int32} {sp dp n : Int32} (hd : decode J.2.1 k = .ok (.invokestatic idx, 3)) (w1 : Cond.methodLink J.1.cls idx arraycopyName ∈ T) (w2 : Cond.native arraycopyName ∈ T) (w3 : Cond.static arraycopyName ∈ T) (w4 : Cond.initialized "java/lang/System" ∈ T)
    (hb0 : hp[b0]? = some (.inl (0, n0, .inl f))) (hb1 : hp[b1]? = some (.inl (0, n1, .inl g))) (h1 : ¬ sp < 0) (h2 : ¬ dp < 0) (h3 : ¬ n < 0) (h4 : sp.toNatClampNeg + n.toNatClampNeg ≤ n0) (h5 : dp.toNatClampNeg + n.toNatClampNeg ≤ n1)
    (hfr : 1 ≤ R.frames) (hlo : (rest.map fun v => v.category).sum + (nativeFrameWords "java/lang/System" "arraycopy" 5 + 11) ≤ R.locals)
    (kk : mx_W K T cl J R (k + 3) ls rest (hp.set b1 (.inl (0, n1, .inl (va_cpy f g sp.toNatClampNeg dp.toNatClampNeg n.toNatClampNeg)))) Q) : mx_W K T cl J R k ls (.int n :: .int dp :: .ref b1 :: .int sp :: .ref b0 :: rest) hp Q := by
  intro l p e s m args below meth c D dT q A H locs lsA hC hl hP hD hS
  have hw := hC.2.2.2.2.2.1
  refine va_copyi hC.1 hC.2.1 (hC.2.2.2.1.trans hl.1.symm) hC.2.2.2.2.1 (hw _ w1) (hw _ w2) (hw _ w3) (hw _ w4) hC.2.2.2.2.2.2.1 hP hD hS b0 b1 0 0 (mx_w_get hb0) (mx_w_get hb1) rfl rfl rfl h1 h2 h3 h4 h5 (fun _ _ => rfl) hfr (by rw [List.map_map]; simpa [Function.comp_def, mx_v_cat] using hlo) hd (fun H1 locs1 hP1 hD1 hS1 => ?_)
  have e1 := mx_w_set q dT hp b1 (.inl (0, n1, .inl (va_cpy f g sp.toNatClampNeg dp.toNatClampNeg n.toNatClampNeg)))
  exact kk l p e s m args below meth c D dT q A H1 locs1 lsA hC hl (e1 ▸ hP1) (e1 ▸ hD1) hS1
theorem mx_copyl {idx b0 b1 n0 n1 : Nat} {f g : Nat → Int64} {sp dp n : Int32} (hd : decode J.2.1 k = .ok (.invokestatic idx, 3)) (w1 : Cond.methodLink J.1.cls idx arraycopyName ∈ T) (w2 : Cond.native arraycopyName ∈ T) (w3 : Cond.static arraycopyName ∈ T) (w4 : Cond.initialized "java/lang/System" ∈ T)
    (hb0 : hp[b0]? = some (.inl (1, n0, .inr (.inl f)))) (hb1 : hp[b1]? = some (.inl (1, n1, .inr (.inl g)))) (h1 : ¬ sp < 0) (h2 : ¬ dp < 0) (h3 : ¬ n < 0) (h4 : sp.toNatClampNeg + n.toNatClampNeg ≤ n0) (h5 : dp.toNatClampNeg + n.toNatClampNeg ≤ n1)
    (hfr : 1 ≤ R.frames) (hlo : (rest.map fun v => v.category).sum + (nativeFrameWords "java/lang/System" "arraycopy" 5 + 11) ≤ R.locals)
    (kk : mx_W K T cl J R (k + 3) ls rest (hp.set b1 (.inl (1, n1, .inr (.inl (va_cpy f g sp.toNatClampNeg dp.toNatClampNeg n.toNatClampNeg))))) Q) : mx_W K T cl J R k ls (.int n :: .int dp :: .ref b1 :: .int sp :: .ref b0 :: rest) hp Q := by
  intro l p e s m args below meth c D dT q A H locs lsA hC hl hP hD hS
  have hw := hC.2.2.2.2.2.1
  refine va_copyl hC.1 hC.2.1 (hC.2.2.2.1.trans hl.1.symm) hC.2.2.2.2.1 (hw _ w1) (hw _ w2) (hw _ w3) (hw _ w4) hC.2.2.2.2.2.2.1 hP hD hS b0 b1 1 1 (mx_w_get hb0) (mx_w_get hb1) rfl rfl rfl h1 h2 h3 h4 h5 (fun _ _ => rfl) hfr (by rw [List.map_map]; simpa [Function.comp_def, mx_v_cat] using hlo) hd (fun H1 locs1 hP1 hD1 hS1 => ?_)
  have e1 := mx_w_set q dT hp b1 (.inl (1, n1, .inr (.inl (va_cpy f g sp.toNatClampNeg dp.toNatClampNeg n.toNatClampNeg))))
  exact kk l p e s m args below meth c D dT q A H1 locs1 lsA hC hl (e1 ▸ hP1) (e1 ▸ hD1) hS1
end MXC
