/-! The engine, sixth part: ends of such walks, constructors called, a picture cut in parts, numbers changed. -/
def mx_ZR (cl : List vw_C) (nn zz : Nat) (qi : Bool) (Q : Option Value → List va_E → Prop) : mx_ZT := fun D dT q A below _ s t =>
  ∃ (v : Option Value) (hp' : List va_E), t.status = .running ∧ Ended t below (.returned (v.map (mx_v q))) ∧ Q v hp' ∧ va_P D cl (mx_w q dT hp') t.heap ∧ va_D A (mx_w q dT hp') ∧ va_F A s t ∧ mx_q qi q hp' t.heap ∧ ∃ L, FrameEnd s (.returned (v.map (mx_v q))) t L nn zz ∧ ∀ x ∈ L, A x.base
section MB2
variable {T : List Cond} {cl : List vw_C} {J : mx_J} {R : Room} {tb : List ExceptionTableEntry} {X : Option (Nat × (Nat → Int32))} {Z : mx_ZT} {qi : Bool} {n9 z9 k nn zz : Nat} {ls rest : List Value} {hp : List va_E} {Q : Option Value → List va_E → Prop}
theorem mb_vret (hd : decode J.2.1 k = .ok (.return_, 1)) (hr : J.2.2.2 = none) (hn : n9 ≤ nn) (hz : z9 ≤ zz) (hQ : Q none hp) : mx_B T cl J R tb X (mx_ZR cl nn zz qi Q) qi n9 z9 k ls [] hp := by
  intro l p e s m args below meth c D dT q A H locs lsA hC hl hq hP hD hS
  have hlocks : meth.locks = false := hC.2.2.2.2.2.2.2.1
  refine W.widen hn hz (mx_Wmono ?_ (W.vret (Qc := fun _ _ o t => o = .returned none ∧ t.heap = H) (free := A) hC.1 hC.2.1 (hC.2.2.1.trans hr) (fun t ht _ => ⟨rfl, ht⟩) hS.2.2 hd hlocks))
  intro t ht
  obtain ⟨o, a1, a2, ⟨rfl, hh⟩, L, hF, hL⟩ := ht
  exact ⟨none, hp, a1, a2, hQ, by rw [hh]; exact hP, hD, hS.F hh, by rw [hh]; exact hq, L, hF, hL⟩
theorem mb_iret {v : Int32} {ty : FieldType} (hd : decode J.2.1 k = .ok (.ireturn, 1)) (hr : J.2.2.2 = some ty) (hna : narrow ty (.int v) = .int v) (hn : n9 ≤ nn) (hz : z9 ≤ zz) (hQ : Q (some (.int v)) hp) : mx_B T cl J R tb X (mx_ZR cl nn zz qi Q) qi n9 z9 k ls [.int v] hp := by
  intro l p e s m args below meth c D dT q A H locs lsA hC hl hq hP hD hS
  have hlocks : meth.locks = false := hC.2.2.2.2.2.2.2.1
  refine W.widen hn hz (mx_Wmono ?_ (W.zret (Qc := fun _ _ o t => o = .returned (some (.int v)) ∧ t.heap = H) (free := A) hC.1 hC.2.1 (hC.2.2.1.trans hr) hna (fun t ht _ => ⟨rfl, ht⟩) hS.2.2 hd hlocks))
  intro t ht
  obtain ⟨o, a1, a2, ⟨rfl, hh⟩, L, hF, hL⟩ := ht
  exact ⟨some (.int v), hp, a1, a2, hQ, by rw [hh]; exact hP, hD, hS.F hh, by rw [hh]; exact hq, L, hF, hL⟩
def mx_QN (D : va_G) (cl : List vw_C) (dT : Nat → ClassId) (q : Nat → Nat) (A : Nat → Prop) (qi : Bool) (Q : Option Value → List va_E → Prop) : Array Value → State → Outcome → State → Prop := fun _ st o t =>
  ∃ (v : Option Value) (hp' : List va_E), o = .returned (v.map (mx_v q)) ∧ Q v hp' ∧ va_P D cl (mx_w q dT hp') t.heap ∧ va_D A (mx_w q dT hp') ∧ va_F A st t ∧ mx_q qi q hp' t.heap
theorem mx_metN {vs : List Value} (l : Launch) (D : va_G) (dT : Nat → ClassId) (q : Nat → Nat) (sz : Nat) (hy : plainName J.1.cls = true) (hc : mx_cat1 vs = true) (hlen : vs.length ≤ J.2.2.1) (hqs : ∀ j : Nat, hp.length ≤ j → j < 1000 → q j = sz + (j - hp.length))
    (hW : mx_B T cl J R [] none (mx_ZR cl nn zz true Q) true 0 0 0 (mx_pad vs J.2.2.1) [] hp) :
    Met l J.1 (Cond.code J.1 J.2.1 J.2.2.1 J.2.2.2 :: T) R (mx_Pc l D cl dT q sz vs hp) (mx_QN D cl dT q (va_A (mx_w q dT hp) sz) true Q) nn zz (va_A (mx_w q dT hp) sz) := by
  refine Met.ofW (cc := J.2.1) (maxL := J.2.2.1) (ret := J.2.2.2) hy rfl ?_
  intro p e s m args below meth c s₁ B hml hv
  obtain ⟨rfl, hsz, hP, hK, hD0, hZ0⟩ := hv
  subst hsz
  have hts := atoms_spec (ws := Cond.code J.1 J.2.1 J.2.2.1 J.2.2.2 :: T) B.pre
  rw [lg_entry_eq]
  refine mx_Wmono ?_ (hW l p e s m _ below meth c D dT q _ s.heap [] _ ⟨B.exec, B.bytes, B.returns, hml, findClass_of_methodNamed B.named, fun w hw => hts w (List.mem_cons_of_mem _ hw), hK, B.notSynchronized, fun r h => Or.inr h, mx_nostat hP, hZ0, fun h => (name_of_methodNamed B.named B.method).1.trans h, fun h => absurd rfl h, trivial⟩ (mx_entry hc hlen) (fun _ => hqs) hP hD0.self va_S.rf)
  intro t ht
  obtain ⟨v, hp', h1, h2, h3, h4, h5, h6, h7, L, hF, hL⟩ := ht
  exact ⟨_, h1, h2, ⟨v, hp', rfl, h3, h4, h5, h6, h7⟩, L, hF, hL⟩
/-- a constructor called -/
theorem mb_init {J' : mx_J} {R' : Room} {idx b mc ms : Nat} {hp' : List va_E} (hd : decode J.2.1 k = .ok (.invokespecial idx, 3)) (hG : mx_G T) (hok : mx_ok T J' 0) (hin : J'.1.name = "<init>") (hV : Cond.instanceMethod J'.1 ∈ T) (hlk : mx_lk T J.1.cls idx J'.1) (hRc : R'.cells = mc ∧ R'.slots = ms ∧ R'.frames + 1 ≤ R.frames ∧ 8 + (J'.2.2.1 + 11) + R'.locals ≤ R.locals) (hret : J'.2.2.2 = none) (hle : 1 ≤ J'.2.2.1) (hrest : (rest.map fun v => v.category).sum ≤ 8) (hcs : n9 + mc ≤ R.cells ∧ z9 + ms ≤ R.slots)
    (hW : mx_B T cl J' R' [] none (mx_ZR cl mc ms true (fun v h => v = none ∧ h = hp')) true 0 0 0 (mx_pad [.ref b] J'.2.2.1) [] hp)
    (kk : mx_B T cl J R tb X Z true (n9 + mc) (z9 + ms) (k + 3) ls rest hp') : mx_B T cl J R tb X Z true n9 z9 k ls (.ref b :: rest) hp := by
  intro l p e s m args below meth c D dT q A H locs lsA hC hl hq hP hD hS
  have hw := hC.2.2.2.2.2.1
  have hM := mx_metN l D dT q H.size hok.2.2.1 (show mx_cat1 [.ref b] = true from rfl) hle (hq rfl) hW
  have hr8 : ((rest.map (mx_v q)).map fun v => v.category).sum ≤ 8 := by rw [List.map_map]; simpa [Function.comp_def, mx_v_cat] using hrest
  have hpre : ∀ U : State, U.heap = H → s.WarmedH U.vm → mx_Pc l D cl dT q H.size [.ref b] hp (([.ref b] : List Value).map (mx_v q)).toArray U := fun U hU hWm => ⟨rfl, by rw [hU], by rw [hU]; exact hP, va_K.moved hWm.alike hC.2.2.2.2.2.2.1, hD.weaken (fun _ _ _ _ => trivial), mx_Z0_moved hWm.alike (fun a cell h1 h2 => by rw [hU, hS.2.1 a (Array.getElem?_eq_some_iff.mp h1).1 (fun hA => by have := hC.2.2.2.2.2.2.2.2.2.1 a hA cell h1; rw [h2] at this; cases this)]; exact h1) hC.2.2.2.2.2.2.2.2.2.2.1⟩
  have hbl := mx_blind l D cl dT q H.size [.ref b] hp
  have hA : ∀ r, va_A (mx_w q dT hp) H.size r → A r := by
    intro r h
    rcases h with ⟨j, x, h⟩ | h
    · exact hD.2 j _ h
    · exact hC.2.2.2.2.2.2.2.2.1 r (Nat.le_trans hS.1 h)
  have hrun : va_Run p l e R s m args below meth c H locs n9 z9 mc ms (F0 m k lsA (.ref (q b) :: rest.map (mx_v q))) (rest.map (mx_v q)) (mx_QN D cl dT q (va_A (mx_w q dT hp) H.size) true (fun v h => v = none ∧ h = hp') (([.ref b] : List Value).map (mx_v q)).toArray) (va_A (mx_w q dT hp) H.size) := by
    have hws := mx_hws hG hok hw
    have hcd : (Cond.code J'.1 J'.2.1 J'.2.2.1 none).before args s = true := by rw [← hret]; exact hw _ hok.1
    rw [hret] at hws hM
    rcases hlk with hlk | ⟨host, hlk⟩
    · exact va_runI (b := q b) (As := []) (bytes := J'.2.1) (maxL := J'.2.2.1) (n := 0) ⟨hC.1, hC.2.1, hC.2.2.2.1, hC.2.2.2.2.1, hw⟩ hM ⟨⟨hRc.1, hRc.2.1, hRc.2.2.1, hRc.2.2.2, hws, List.mem_cons_self, hcd, hw _ hok.2.1, ⟨hok.2.2.2.1, hok.2.2.2.2.1⟩, mx_par hok.2.2.2.2.2, hw _ hlk⟩, hin, hw _ hV⟩ ⟨hbl, hpre⟩ rfl rfl hl.1 rfl (lv_room hr8) hd hcs
    · exact va_runIN (b := q b) (As := []) (bytes := J'.2.1) (maxL := J'.2.2.1) (n := 0) ⟨hC.1, hC.2.1, hC.2.2.2.1, hC.2.2.2.2.1, hw⟩ hM ⟨⟨⟨hRc.1, hRc.2.1, hRc.2.2.1, hRc.2.2.2, hws, List.mem_cons_self⟩, hcd, hw _ hok.2.1, ⟨hok.2.2.2.1, hok.2.2.2.2.1⟩, mx_par hok.2.2.2.2.2, hw _ hlk⟩, hin, hw _ hV⟩ ⟨hbl, hpre⟩ rfl rfl hl.1 rfl (lv_room hr8) hd hcs
  intro Tt hT Xs
  obtain ⟨v, st₀, t, T', L, h0, X', hL, e1, e2, ⟨w, hp2, hv, ⟨hq1, hq2⟩, hP1, hD1, ⟨hz, hk⟩, hq3⟩, st⟩ := hrun Tt hT Xs
  subst hq1; subst hq2
  have hv := Outcome.returned.inj hv
  subst hv
  rw [h0] at hz hk
  have hS1 : va_S A s.heap T'.heap (locs ++ L) := ⟨Nat.le_trans hS.1 (by rw [e1]; exact hz), fun r h1 h2 => by rw [e1, hk r (Nat.lt_of_lt_of_le h1 hS.1) (fun z => h2 (hA r z))]; exact hS.2.1 r h1 h2, fun r hr => by
    rcases List.mem_append.mp hr with h | h
    · exact hS.2.2 r h
    · exact hA _ (hL r h)⟩
  obtain ⟨t2, a1, b1⟩ := kk l p e s m args below meth c D dT q A T'.heap (locs ++ L) lsA hC hl (by rw [e1]; exact hq3) (by rw [e1]; exact hP1) (hD1.weaken (fun _ y _ h => hA y.1 h)) hS1 T' rfl X'
  exact ⟨t2, st t2 a1, b1⟩
end MB2
/-! Numbers changed: the same cells under other numbers. -/
theorem mx_v_v (q π : Nat → Nat) (v : Value) : mx_v q (mx_v π v) = mx_v (fun k => q (π k)) v := by cases v <;> rfl
theorem mx_a_a (q π : Nat → Nat) (a : vp_A) : mx_a q (mx_a π a) = mx_a (fun k => q (π k)) a := by
  obtain ⟨n, f | f | f | f | f⟩ := a
  · rfl
  · rfl
  · rfl
  · rfl
  · show ((n, _) : vp_A) = (n, _)
    simp [Function.comp_def]
theorem mx_e_e (q π : Nat → Nat) (dT : Nat → ClassId) (x : va_E) : mx_e q dT (mx_e π (fun t => t) x) = mx_e (fun k => q (π k)) dT x := by
  obtain ⟨t, a⟩ | ⟨c, fs⟩ := x
  · show Sum.inl (dT t, mx_a q (mx_a π a)) = Sum.inl (dT t, mx_a (fun k => q (π k)) a)
    rw [mx_a_a]
  · show Sum.inr (c, (fs.map (mx_v π)).map (mx_v q)) = Sum.inr (c, fs.map (mx_v (fun k => q (π k))))
    rw [List.map_map]
    congr 2
    exact List.map_congr_left (fun v _ => mx_v_v q π v)
theorem mx_w_at {q : Nat → Nat} {dT : Nat → ClassId} {hp : List va_E} {k : Nat} {y : Nat × va_E} (h : (mx_w q dT hp)[k]? = some y) : ∃ x, hp[k]? = some x ∧ y = (q k, mx_e q dT x) := by
  unfold mx_w at h
  rw [List.getElem?_mapIdx] at h
  cases h2 : hp[k]? with
  | none => rw [h2] at h; cases h
  | some x => rw [h2] at h; cases h; exact ⟨x, rfl, rfl⟩
/-- the walk goes on with other numbers for the same cells; no more are made -/
theorem mb_ren {T : List Cond} {cl : List vw_C} {J : mx_J} {R : Room} {tb : List ExceptionTableEntry} {X : Option (Nat × (Nat → Int32))} {Z : mx_ZT} {qi : Bool} {n9 z9 k : Nat} {ls st : List Value} {hp hp2 : List va_E} (π : Nat → Nat) (h1000 : π 1000 = 1000) (hinj : ∀ i j, i < hp2.length → j < hp2.length → π i = π j → i = j) (hsame : ∀ (i : Nat) (x : va_E), hp2[i]? = some x → hp[π i]? = some (mx_e π (fun t => t) x)) (hZ : ∀ D dT q q2 A below args s t, Z D dT q A below args s t → Z D dT q2 A below args s t)
    (kk : mx_B T cl J R tb X Z false n9 z9 k ls st hp2) : mx_B T cl J R tb X Z qi n9 z9 k (ls.map (mx_v π)) (st.map (mx_v π)) hp := by
  intro l p e s m args below meth c D dT q A H locs lsA hC hl hq hP hD hS
  have hst : (st.map (mx_v π)).map (mx_v q) = st.map (mx_v (fun j => q (π j))) := by
    rw [List.map_map]
    exact List.map_congr_left (fun v _ => mx_v_v q π v)
  rw [hst]
  have hat : ∀ (i : Nat) (y : Nat × va_E), (mx_w (fun j => q (π j)) dT hp2)[i]? = some y → (mx_w q dT hp)[π i]? = some y := fun i y hy => by
    obtain ⟨x, h1, h2⟩ := mx_w_at hy
    rw [h2, ← mx_e_e]
    exact mx_w_get (hsame i x h1)
  refine mx_Wmono (fun t ht => hZ _ _ _ _ _ _ _ _ _ ht) (kk l p e s m args below meth c D dT (fun j => q (π j)) A H locs lsA ⟨hC.1, hC.2.1, hC.2.2.1, hC.2.2.2.1, hC.2.2.2.2.1, hC.2.2.2.2.2.1, hC.2.2.2.2.2.2.1, hC.2.2.2.2.2.2.2.1, hC.2.2.2.2.2.2.2.2.1, hC.2.2.2.2.2.2.2.2.2.1, hC.2.2.2.2.2.2.2.2.2.2.1, hC.2.2.2.2.2.2.2.2.2.2.2.1, hC.2.2.2.2.2.2.2.2.2.2.2.2.1, ?_⟩ (mx_has_mono hl (fun x hx => ?_)) (fun h => Bool.noConfusion h) (fun i y hy => hP _ _ (hat i y hy)) ⟨fun i j x y hx hy hxy => ?_, fun i y hy => hD.2 _ _ (hat i y hy)⟩ hS)
  · have hX := hC.2.2.2.2.2.2.2.2.2.2.2.2.2
    unfold mx_X at hX ⊢
    cases X with
    | none => trivial
    | some L =>
      show va_X (q (π 1000)) L.1 L.2 s s.heap ∧ q (π 1000) < s.heap.size ∧ ¬ A (q (π 1000)) ∧ (∀ r, A r → s.heap.size ≤ r) ∧ args = #[.ref (q (π 1000))]
      rw [h1000]
      exact hX
  · obtain ⟨v, h1, h2, h3⟩ := mx_l_mem.mp hx
    refine mx_l_mem.mpr ⟨mx_v π v, by rw [List.getElem?_map, h1]; rfl, fun kk hk => ?_, by rw [h3, mx_v_v]⟩
    cases v with
    | retAddr z => exact h2 z rfl
    | _ => cases hk
  · obtain ⟨x1, a1, a2⟩ := mx_w_at hx
    obtain ⟨y1, b1, b2⟩ := mx_w_at hy
    have := hD.1 _ _ _ _ (hat i x hx) (hat j y hy) hxy
    exact hinj i j (List.getElem?_eq_some_iff.mp a1).1 (List.getElem?_eq_some_iff.mp b1).1 this
