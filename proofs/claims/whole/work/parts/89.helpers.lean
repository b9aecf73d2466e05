/-! The law's helpers: what they answer, over the class's picture and the row out at 67. -/
abbrev eo (f : Nat → Int64) : va_E := .inl (1, 1, .inr (.inl f))
/-- the number a helper answers; what it leaves in out -/
def hkx (ks : List (Nat × Int32)) (r : mx_O) : Int32 := match r with
  | .inl _ => 0
  | .inr k => ((ks.find? (fun p => p.1 == k)).map (fun p => p.2)).getD 9
def hfo (f : Nat → Int64) (r : mx_O) : Nat → Int64 := match r with
  | .inl (some (.int v)) => vp_updL f 0 v.toInt64
  | _ => f
theorem hput (o : va_E) (n : Nat) (h : List va_E) (hn : h.length = n) (q : Nat → Nat) (dT : Nat → ClassId) : mx_w q dT (h ++ [o]) = mx_w q dT h ++ [(q n, mx_e q dT o)] := by rw [mx_w_push, hn]
theorem hput2 (o : va_E) (h : List va_E) (hn : h.length = 67) (q : Nat → Nat) (dT : Nat → ClassId) : mx_w q dT (h ++ [o]) = [] ++ (mx_w (fun j => q j) dT h ++ [(q 67, mx_e q dT o)]) := by rw [mx_w_push, hn]; rfl
theorem pic_len (cnt fil : Int32) (I : Nat → Nat → Int32) (L : Nat → Nat → Int64) : (pic cnt fil I L).length = 67 := rfl
abbrev mRH : Room := { frames := 9, cells := 1, slots := 6, locals := 190 }
theorem hh_gate {c : Nat} {fil : Int32} {I : Nat → Nat → Int32} {L : Nat → Nat → Int64} {f : Nat → Int64} (hc : c ≤ 12) {x y : Int32} {r : mx_O} {h2 : List va_E} (hA : aGate c fil I L x y = (r, h2)) (hr : (∃ v, r = .inl (some (.int v))) ∨ r = .inr 0 ∨ r = .inr 1) (hl : h2.length = 67) : mx_B mT mCl jW_gate mRH tbW_gate none (mx_ZR mCl 1 6 false (fun v h => v = some (.int (hkx [(0, 1), (1, 2)] r)) ∧ h = h2 ++ [(eo (hfo f r))])) false 0 0 0 (mx_pad [.ref 0, .int x, .int y, .ref 67] 5) [] (pic (nI c) fil I L ++ [eo f]) := by
  have hW : ∀ Q : mx_O → List va_E → Prop, Q r h2 → mx_W mx_K mT mCl jA_gate (mRT 6 102) 0 (mx_pad (.ref 0 :: [.int x, .int y]) jA_gate.2.2.1) [] (pic (nI c) fil I L) Q := fun Q hQ => cA_gate hc (by rw [hA]; exact hQ)
  rcases hr with ⟨v, rfl⟩ | rfl | rfl
  · refine mb_aload_n dW_gate_0 rfl ?_
    refine mb_iconst (0) dW_gate_1 (by decide) ?_
    refine mb_aload_n dW_gate_2 rfl ?_
    refine mb_iload_n dW_gate_3 rfl ?_
    refine mb_iload_n dW_gate_4 rfl ?_
    refine mb_VL (R' := mRT 6 102) (mc := 1) (ms := 6) (fun j => j) (fun h => h ++ [eo f]) (fun _ _ => []) (fun q dT => [(q 67, mx_e q dT (eo f))]) [.int x, .int y] [.int 0, .ref 67] dW_gate_5 rfl rfl mT_G jA_gate_ok jA_gate_v (mT_2 (i := 21) rfl rfl) ⟨rfl, rfl, Nat.le_of_ble_eq_true rfl, Nat.le_of_ble_eq_true rfl⟩ rfl rfl (fun _ _ => rfl) (Nat.le_of_ble_eq_true rfl) (Nat.le_of_ble_eq_true rfl) rfl rfl rfl (fun h hn q dT => hput2 _ h hn q dT) (hW (fun r h => r = .inl (some (.int v)) ∧ h = h2) ⟨rfl, rfl⟩) (fun Y h q => by cases q.1) (fun v2 h q => by obtain ⟨e1, rfl⟩ := q; cases e1; exact ⟨hl, Or.inr ⟨_, rfl⟩⟩) ⟨Nat.le_of_ble_eq_true rfl, Nat.le_of_ble_eq_true rfl⟩ (fun v2 h q => ?_)
    obtain ⟨e1, rfl⟩ := q
    cases e1
    refine mb_i2l dW_gate_8 rfl ?_
    refine mb_last dW_gate_9 (by rw [List.getElem?_append_right (by rw [hl]; exact Nat.le_refl _), hl]; rfl) (vp_in_nI (n := 0) (by decide) (by decide)) ?_
    rw [List.set_append_right _ _ (by rw [hl]; exact Nat.le_refl _), hl]
    refine mb_goto 21 dW_gate_10 rfl ?_
    refine mb_iconst (0) dW_gate_21 (by decide) ?_
    exact mb_iret dW_gate_22 rfl rfl (Nat.le_of_ble_eq_true rfl) (Nat.le_of_ble_eq_true rfl) ⟨rfl, rfl⟩
  · refine mb_aload_n dW_gate_0 rfl ?_
    refine mb_iconst (0) dW_gate_1 (by decide) ?_
    refine mb_aload_n dW_gate_2 rfl ?_
    refine mb_iload_n dW_gate_3 rfl ?_
    refine mb_iload_n dW_gate_4 rfl ?_
    exact mb_VX (R' := mRT 6 102) (pre := []) (post := [⟨0, 10, 17, 15⟩]) (j9 := 4) (ic := 1) 0 ⟨0, 10, 13, 13⟩ (fun h => h ++ [eo f]) (fun q dT => [(q 67, mx_e q dT (eo f))]) [.int x, .int y] [.int 0, .ref 67] dW_gate_5 rfl mT_G jA_gate_ok jA_gate_v (mT_2 (i := 21) rfl rfl) ⟨Nat.le_of_ble_eq_true rfl, Nat.le_of_ble_eq_true rfl, Nat.le_of_ble_eq_true rfl, Nat.le_of_ble_eq_true rfl⟩ rfl rfl (Nat.le_of_ble_eq_true rfl) (Nat.le_of_ble_eq_true rfl) rfl rfl rfl (fun h hn q dT => hput _ 67 h hn q dT) (hW (fun r h => r = .inr 0 ∧ h = h2) ⟨rfl, rfl⟩) (fun v h q => by cases q.1) (fun Y2 h q => by obtain ⟨e1, rfl⟩ := q; cases e1; exact ⟨rfl, rfl⟩) hl rfl (fun y hy => by cases hy) (by decide) (by decide) (mT_2 (i := 19) rfl rfl) 2 (Or.inl ⟨dW_gate_13, rfl⟩) (Nat.le_of_ble_eq_true rfl) dW_gate_15 rfl dW_gate_16 rfl ⟨rfl, rfl⟩
  · refine mb_aload_n dW_gate_0 rfl ?_
    refine mb_iconst (0) dW_gate_1 (by decide) ?_
    refine mb_aload_n dW_gate_2 rfl ?_
    refine mb_iload_n dW_gate_3 rfl ?_
    refine mb_iload_n dW_gate_4 rfl ?_
    exact mb_VX (R' := mRT 6 102) (pre := [⟨0, 10, 13, 13⟩]) (post := []) (j9 := 4) (ic := 2) 1 ⟨0, 10, 17, 15⟩ (fun h => h ++ [eo f]) (fun q dT => [(q 67, mx_e q dT (eo f))]) [.int x, .int y] [.int 0, .ref 67] dW_gate_5 rfl mT_G jA_gate_ok jA_gate_v (mT_2 (i := 21) rfl rfl) ⟨Nat.le_of_ble_eq_true rfl, Nat.le_of_ble_eq_true rfl, Nat.le_of_ble_eq_true rfl, Nat.le_of_ble_eq_true rfl⟩ rfl rfl (Nat.le_of_ble_eq_true rfl) (Nat.le_of_ble_eq_true rfl) rfl rfl rfl (fun h hn q dT => hput _ 67 h hn q dT) (hW (fun r h => r = .inr 1 ∧ h = h2) ⟨rfl, rfl⟩) (fun v h q => by cases q.1) (fun Y2 h q => by obtain ⟨e1, rfl⟩ := q; cases e1; exact ⟨rfl, rfl⟩) hl rfl (fun y hy => by rw [List.mem_singleton.mp hy]; exact ⟨(by decide), "java/lang/IllegalArgumentException", (mT_2 (i := 19) rfl rfl), (by decide)⟩) (by decide) (by decide) (mT_2 (i := 20) rfl rfl) 2 (Or.inl ⟨dW_gate_17, rfl⟩) (Nat.le_of_ble_eq_true rfl) dW_gate_19 rfl dW_gate_20 rfl ⟨rfl, rfl⟩
theorem hh_wire {c : Nat} {fil : Int32} {I : Nat → Nat → Int32} {L : Nat → Nat → Int64} {f : Nat → Int64} (hc : c ≤ 12) {x y w v : Int32} {r : mx_O} {h2 : List va_E} (hA : aWire c fil I L x y w v = (r, h2)) (hr : r = .inl none ∨ r = .inr 2 ∨ r = .inr 0) (hl : h2.length = 67) : mx_B mT mCl jW_wire mRH tbW_wire none (mx_ZR mCl 1 6 false (fun v h => v = some (.int (hkx [(2, 1), (0, 2)] r)) ∧ h = h2 ++ [(eo f)])) false 0 0 0 (mx_pad [.ref 0, .int x, .int y, .int w, .int v] 6) [] (pic (nI c) fil I L ++ [eo f]) := by
  have hW : ∀ Q : mx_O → List va_E → Prop, Q r h2 → mx_W mx_K mT mCl jA_wire (mRT 6 102) 0 (mx_pad (.ref 0 :: [.int x, .int y, .int w, .int v]) jA_wire.2.2.1) [] (pic (nI c) fil I L) Q := fun Q hQ => cA_wire hc (by rw [hA]; exact hQ)
  rcases hr with rfl | rfl | rfl
  · refine mb_aload_n dW_wire_0 rfl ?_
    refine mb_iload_n dW_wire_1 rfl ?_
    refine mb_iload_n dW_wire_2 rfl ?_
    refine mb_iload_n dW_wire_3 rfl ?_
    refine mb_iload dW_wire_4 rfl ?_
    refine mb_VL (R' := mRT 6 102) (mc := 1) (ms := 6) (fun j => j) (fun h => h ++ [eo f]) (fun _ _ => []) (fun q dT => [(q 67, mx_e q dT (eo f))]) [.int x, .int y, .int w, .int v] [] dW_wire_6 rfl rfl mT_G jA_wire_ok jA_wire_v (mT_2 (i := 112) rfl rfl) ⟨rfl, rfl, Nat.le_of_ble_eq_true rfl, Nat.le_of_ble_eq_true rfl⟩ rfl rfl (fun _ _ => rfl) (Nat.le_of_ble_eq_true rfl) (Nat.le_of_ble_eq_true rfl) rfl rfl rfl (fun h hn q dT => hput2 _ h hn q dT) (hW (fun r h => r = .inl (none) ∧ h = h2) ⟨rfl, rfl⟩) (fun Y h q => by cases q.1) (fun v2 h q => by obtain ⟨e1, rfl⟩ := q; cases e1; exact ⟨hl, Or.inl rfl⟩) ⟨Nat.le_of_ble_eq_true rfl, Nat.le_of_ble_eq_true rfl⟩ (fun v2 h q => ?_)
    obtain ⟨e1, rfl⟩ := q
    cases e1
    refine mb_goto 20 dW_wire_9 rfl ?_
    refine mb_iconst (0) dW_wire_20 (by decide) ?_
    exact mb_iret dW_wire_21 rfl rfl (Nat.le_of_ble_eq_true rfl) (Nat.le_of_ble_eq_true rfl) ⟨rfl, rfl⟩
  · refine mb_aload_n dW_wire_0 rfl ?_
    refine mb_iload_n dW_wire_1 rfl ?_
    refine mb_iload_n dW_wire_2 rfl ?_
    refine mb_iload_n dW_wire_3 rfl ?_
    refine mb_iload dW_wire_4 rfl ?_
    exact mb_VX (R' := mRT 6 102) (pre := []) (post := [⟨0, 9, 16, 13⟩]) (j9 := 5) (ic := 1) 2 ⟨0, 9, 12, 21⟩ (fun h => h ++ [eo f]) (fun q dT => [(q 67, mx_e q dT (eo f))]) [.int x, .int y, .int w, .int v] [] dW_wire_6 rfl mT_G jA_wire_ok jA_wire_v (mT_2 (i := 112) rfl rfl) ⟨Nat.le_of_ble_eq_true rfl, Nat.le_of_ble_eq_true rfl, Nat.le_of_ble_eq_true rfl, Nat.le_of_ble_eq_true rfl⟩ rfl rfl (Nat.le_of_ble_eq_true rfl) (Nat.le_of_ble_eq_true rfl) rfl rfl rfl (fun h hn q dT => hput _ 67 h hn q dT) (hW (fun r h => r = .inr 2 ∧ h = h2) ⟨rfl, rfl⟩) (fun v h q => by cases q.1) (fun Y2 h q => by obtain ⟨e1, rfl⟩ := q; cases e1; exact ⟨rfl, rfl⟩) hl rfl (fun y hy => by cases hy) (by decide) (by decide) (mT_2 (i := 111) rfl rfl) 2 (Or.inl ⟨dW_wire_12, rfl⟩) (Nat.le_of_ble_eq_true rfl) dW_wire_14 rfl dW_wire_15 rfl ⟨rfl, rfl⟩
  · refine mb_aload_n dW_wire_0 rfl ?_
    refine mb_iload_n dW_wire_1 rfl ?_
    refine mb_iload_n dW_wire_2 rfl ?_
    refine mb_iload_n dW_wire_3 rfl ?_
    refine mb_iload dW_wire_4 rfl ?_
    exact mb_VX (R' := mRT 6 102) (pre := [⟨0, 9, 12, 21⟩]) (post := []) (j9 := 5) (ic := 2) 0 ⟨0, 9, 16, 13⟩ (fun h => h ++ [eo f]) (fun q dT => [(q 67, mx_e q dT (eo f))]) [.int x, .int y, .int w, .int v] [] dW_wire_6 rfl mT_G jA_wire_ok jA_wire_v (mT_2 (i := 112) rfl rfl) ⟨Nat.le_of_ble_eq_true rfl, Nat.le_of_ble_eq_true rfl, Nat.le_of_ble_eq_true rfl, Nat.le_of_ble_eq_true rfl⟩ rfl rfl (Nat.le_of_ble_eq_true rfl) (Nat.le_of_ble_eq_true rfl) rfl rfl rfl (fun h hn q dT => hput _ 67 h hn q dT) (hW (fun r h => r = .inr 0 ∧ h = h2) ⟨rfl, rfl⟩) (fun v h q => by cases q.1) (fun Y2 h q => by obtain ⟨e1, rfl⟩ := q; cases e1; exact ⟨rfl, rfl⟩) hl rfl (fun y hy => by rw [List.mem_singleton.mp hy]; exact ⟨(by decide), "java/util/NoSuchElementException", (mT_2 (i := 111) rfl rfl), (by decide)⟩) (by decide) (by decide) (mT_2 (i := 19) rfl rfl) 2 (Or.inl ⟨dW_wire_16, rfl⟩) (Nat.le_of_ble_eq_true rfl) dW_wire_18 rfl dW_wire_19 rfl ⟨rfl, rfl⟩
theorem hh_hold {c : Nat} {fil : Int32} {I : Nat → Nat → Int32} {L : Nat → Nat → Int64} {f : Nat → Int64} (hc : c ≤ 12) {x y w v : Int32} {r : mx_O} {h2 : List va_E} (hA : aHold c fil I L x y w v = (r, h2)) (hr : r = .inl none ∨ r = .inr 2 ∨ r = .inr 0) (hl : h2.length = 67) : mx_B mT mCl jW_hold mRH tbW_hold none (mx_ZR mCl 1 6 false (fun v h => v = some (.int (hkx [(2, 1), (0, 2)] r)) ∧ h = h2 ++ [(eo f)])) false 0 0 0 (mx_pad [.ref 0, .int x, .int y, .int w, .int v] 6) [] (pic (nI c) fil I L ++ [eo f]) := by
  have hW : ∀ Q : mx_O → List va_E → Prop, Q r h2 → mx_W mx_K mT mCl jA_hold (mRT 8 139) 0 (mx_pad (.ref 0 :: [.int x, .int y, .int w, .int v]) jA_hold.2.2.1) [] (pic (nI c) fil I L) Q := fun Q hQ => cA_hold hc (by rw [hA]; exact hQ)
  rcases hr with rfl | rfl | rfl
  · refine mb_aload_n dW_hold_0 rfl ?_
    refine mb_iload_n dW_hold_1 rfl ?_
    refine mb_iload_n dW_hold_2 rfl ?_
    refine mb_iload_n dW_hold_3 rfl ?_
    refine mb_iload dW_hold_4 rfl ?_
    refine mb_VL (R' := mRT 8 139) (mc := 1) (ms := 6) (fun j => j) (fun h => h ++ [eo f]) (fun _ _ => []) (fun q dT => [(q 67, mx_e q dT (eo f))]) [.int x, .int y, .int w, .int v] [] dW_hold_6 rfl rfl mT_G jA_hold_ok jA_hold_v (mT_2 (i := 163) rfl rfl) ⟨rfl, rfl, Nat.le_of_ble_eq_true rfl, Nat.le_of_ble_eq_true rfl⟩ rfl rfl (fun _ _ => rfl) (Nat.le_of_ble_eq_true rfl) (Nat.le_of_ble_eq_true rfl) rfl rfl rfl (fun h hn q dT => hput2 _ h hn q dT) (hW (fun r h => r = .inl (none) ∧ h = h2) ⟨rfl, rfl⟩) (fun Y h q => by cases q.1) (fun v2 h q => by obtain ⟨e1, rfl⟩ := q; cases e1; exact ⟨hl, Or.inl rfl⟩) ⟨Nat.le_of_ble_eq_true rfl, Nat.le_of_ble_eq_true rfl⟩ (fun v2 h q => ?_)
    obtain ⟨e1, rfl⟩ := q
    cases e1
    refine mb_goto 20 dW_hold_9 rfl ?_
    refine mb_iconst (0) dW_hold_20 (by decide) ?_
    exact mb_iret dW_hold_21 rfl rfl (Nat.le_of_ble_eq_true rfl) (Nat.le_of_ble_eq_true rfl) ⟨rfl, rfl⟩
  · refine mb_aload_n dW_hold_0 rfl ?_
    refine mb_iload_n dW_hold_1 rfl ?_
    refine mb_iload_n dW_hold_2 rfl ?_
    refine mb_iload_n dW_hold_3 rfl ?_
    refine mb_iload dW_hold_4 rfl ?_
    exact mb_VX (R' := mRT 8 139) (pre := []) (post := [⟨0, 9, 16, 13⟩]) (j9 := 5) (ic := 1) 2 ⟨0, 9, 12, 21⟩ (fun h => h ++ [eo f]) (fun q dT => [(q 67, mx_e q dT (eo f))]) [.int x, .int y, .int w, .int v] [] dW_hold_6 rfl mT_G jA_hold_ok jA_hold_v (mT_2 (i := 163) rfl rfl) ⟨Nat.le_of_ble_eq_true rfl, Nat.le_of_ble_eq_true rfl, Nat.le_of_ble_eq_true rfl, Nat.le_of_ble_eq_true rfl⟩ rfl rfl (Nat.le_of_ble_eq_true rfl) (Nat.le_of_ble_eq_true rfl) rfl rfl rfl (fun h hn q dT => hput _ 67 h hn q dT) (hW (fun r h => r = .inr 2 ∧ h = h2) ⟨rfl, rfl⟩) (fun v h q => by cases q.1) (fun Y2 h q => by obtain ⟨e1, rfl⟩ := q; cases e1; exact ⟨rfl, rfl⟩) hl rfl (fun y hy => by cases hy) (by decide) (by decide) (mT_2 (i := 111) rfl rfl) 2 (Or.inl ⟨dW_hold_12, rfl⟩) (Nat.le_of_ble_eq_true rfl) dW_hold_14 rfl dW_hold_15 rfl ⟨rfl, rfl⟩
  · refine mb_aload_n dW_hold_0 rfl ?_
    refine mb_iload_n dW_hold_1 rfl ?_
    refine mb_iload_n dW_hold_2 rfl ?_
    refine mb_iload_n dW_hold_3 rfl ?_
    refine mb_iload dW_hold_4 rfl ?_
    exact mb_VX (R' := mRT 8 139) (pre := [⟨0, 9, 12, 21⟩]) (post := []) (j9 := 5) (ic := 2) 0 ⟨0, 9, 16, 13⟩ (fun h => h ++ [eo f]) (fun q dT => [(q 67, mx_e q dT (eo f))]) [.int x, .int y, .int w, .int v] [] dW_hold_6 rfl mT_G jA_hold_ok jA_hold_v (mT_2 (i := 163) rfl rfl) ⟨Nat.le_of_ble_eq_true rfl, Nat.le_of_ble_eq_true rfl, Nat.le_of_ble_eq_true rfl, Nat.le_of_ble_eq_true rfl⟩ rfl rfl (Nat.le_of_ble_eq_true rfl) (Nat.le_of_ble_eq_true rfl) rfl rfl rfl (fun h hn q dT => hput _ 67 h hn q dT) (hW (fun r h => r = .inr 0 ∧ h = h2) ⟨rfl, rfl⟩) (fun v h q => by cases q.1) (fun Y2 h q => by obtain ⟨e1, rfl⟩ := q; cases e1; exact ⟨rfl, rfl⟩) hl rfl (fun y hy => by rw [List.mem_singleton.mp hy]; exact ⟨(by decide), "java/util/NoSuchElementException", (mT_2 (i := 111) rfl rfl), (by decide)⟩) (by decide) (by decide) (mT_2 (i := 19) rfl rfl) 2 (Or.inl ⟨dW_hold_16, rfl⟩) (Nat.le_of_ble_eq_true rfl) dW_hold_18 rfl dW_hold_19 rfl ⟨rfl, rfl⟩
theorem hh_held {c : Nat} {fil : Int32} {I : Nat → Nat → Int32} {L : Nat → Nat → Int64} {f : Nat → Int64} (hc : c ≤ 12) {x y w : Int32} {r : mx_O} {h2 : List va_E} (hA : aHeld c fil I L x y w = (r, h2)) (hr : (∃ v, r = .inl (some (.int v))) ∨ r = .inr 2) (hl : h2.length = 67) : mx_B mT mCl jW_held mRH tbW_held none (mx_ZR mCl 1 6 false (fun v h => v = some (.int (hkx [(2, 1)] r)) ∧ h = h2 ++ [(eo (hfo f r))])) false 0 0 0 (mx_pad [.ref 0, .int x, .int y, .int w, .ref 67] 6) [] (pic (nI c) fil I L ++ [eo f]) := by
  have hW : ∀ Q : mx_O → List va_E → Prop, Q r h2 → mx_W mx_K mT mCl jA_held (mRT 8 139) 0 (mx_pad (.ref 0 :: [.int x, .int y, .int w]) jA_held.2.2.1) [] (pic (nI c) fil I L) Q := fun Q hQ => cA_held hc (by rw [hA]; exact hQ)
  rcases hr with ⟨v, rfl⟩ | rfl
  · refine mb_aload dW_held_0 rfl ?_
    refine mb_iconst (0) dW_held_2 (by decide) ?_
    refine mb_aload_n dW_held_3 rfl ?_
    refine mb_iload_n dW_held_4 rfl ?_
    refine mb_iload_n dW_held_5 rfl ?_
    refine mb_iload_n dW_held_6 rfl ?_
    refine mb_VL (R' := mRT 8 139) (mc := 1) (ms := 6) (fun j => j) (fun h => h ++ [eo f]) (fun _ _ => []) (fun q dT => [(q 67, mx_e q dT (eo f))]) [.int x, .int y, .int w] [.int 0, .ref 67] dW_held_7 rfl rfl mT_G jA_held_ok jA_held_v (mT_2 (i := 183) rfl rfl) ⟨rfl, rfl, Nat.le_of_ble_eq_true rfl, Nat.le_of_ble_eq_true rfl⟩ rfl rfl (fun _ _ => rfl) (Nat.le_of_ble_eq_true rfl) (Nat.le_of_ble_eq_true rfl) rfl rfl rfl (fun h hn q dT => hput2 _ h hn q dT) (hW (fun r h => r = .inl (some (.int v)) ∧ h = h2) ⟨rfl, rfl⟩) (fun Y h q => by cases q.1) (fun v2 h q => by obtain ⟨e1, rfl⟩ := q; cases e1; exact ⟨hl, Or.inr ⟨_, rfl⟩⟩) ⟨Nat.le_of_ble_eq_true rfl, Nat.le_of_ble_eq_true rfl⟩ (fun v2 h q => ?_)
    obtain ⟨e1, rfl⟩ := q
    cases e1
    refine mb_i2l dW_held_10 rfl ?_
    refine mb_last dW_held_11 (by rw [List.getElem?_append_right (by rw [hl]; exact Nat.le_refl _), hl]; rfl) (vp_in_nI (n := 0) (by decide) (by decide)) ?_
    rw [List.set_append_right _ _ (by rw [hl]; exact Nat.le_refl _), hl]
    refine mb_goto 19 dW_held_12 rfl ?_
    refine mb_iconst (0) dW_held_19 (by decide) ?_
    exact mb_iret dW_held_20 rfl rfl (Nat.le_of_ble_eq_true rfl) (Nat.le_of_ble_eq_true rfl) ⟨rfl, rfl⟩
  · refine mb_aload dW_held_0 rfl ?_
    refine mb_iconst (0) dW_held_2 (by decide) ?_
    refine mb_aload_n dW_held_3 rfl ?_
    refine mb_iload_n dW_held_4 rfl ?_
    refine mb_iload_n dW_held_5 rfl ?_
    refine mb_iload_n dW_held_6 rfl ?_
    exact mb_VX (R' := mRT 8 139) (pre := []) (post := []) (j9 := 5) (ic := 1) 2 ⟨0, 12, 15, 21⟩ (fun h => h ++ [eo f]) (fun q dT => [(q 67, mx_e q dT (eo f))]) [.int x, .int y, .int w] [.int 0, .ref 67] dW_held_7 rfl mT_G jA_held_ok jA_held_v (mT_2 (i := 183) rfl rfl) ⟨Nat.le_of_ble_eq_true rfl, Nat.le_of_ble_eq_true rfl, Nat.le_of_ble_eq_true rfl, Nat.le_of_ble_eq_true rfl⟩ rfl rfl (Nat.le_of_ble_eq_true rfl) (Nat.le_of_ble_eq_true rfl) rfl rfl rfl (fun h hn q dT => hput _ 67 h hn q dT) (hW (fun r h => r = .inr 2 ∧ h = h2) ⟨rfl, rfl⟩) (fun v h q => by cases q.1) (fun Y2 h q => by obtain ⟨e1, rfl⟩ := q; cases e1; exact ⟨rfl, rfl⟩) hl rfl (fun y hy => by cases hy) (by decide) (by decide) (mT_2 (i := 111) rfl rfl) 2 (Or.inl ⟨dW_held_15, rfl⟩) (Nat.le_of_ble_eq_true rfl) dW_held_17 rfl dW_held_18 rfl ⟨rfl, rfl⟩
theorem hh_registers {c : Nat} {fil : Int32} {I : Nat → Nat → Int32} {L : Nat → Nat → Int64} {f : Nat → Int64} (hc : c ≤ 12) {x y : Int32} {r : mx_O} {h2 : List va_E} (hA : aRegs c fil I L x y = (r, h2)) (hr : (∃ v, r = .inl (some (.int v))) ∨ r = .inr 2) (hl : h2.length = 67) : mx_B mT mCl jW_registers mRH tbW_registers none (mx_ZR mCl 1 6 false (fun v h => v = some (.int (hkx [(2, 1)] r)) ∧ h = h2 ++ [(eo (hfo f r))])) false 0 0 0 (mx_pad [.ref 0, .int x, .int y, .ref 67] 5) [] (pic (nI c) fil I L ++ [eo f]) := by
  have hW : ∀ Q : mx_O → List va_E → Prop, Q r h2 → mx_W mx_K mT mCl jA_registers (mRT 7 115) 0 (mx_pad (.ref 0 :: [.int x, .int y]) jA_registers.2.2.1) [] (pic (nI c) fil I L) Q := fun Q hQ => cA_registers hc (by rw [hA]; exact hQ)
  rcases hr with ⟨v, rfl⟩ | rfl
  · refine mb_aload_n dW_registers_0 rfl ?_
    refine mb_iconst (0) dW_registers_1 (by decide) ?_
    refine mb_aload_n dW_registers_2 rfl ?_
    refine mb_iload_n dW_registers_3 rfl ?_
    refine mb_iload_n dW_registers_4 rfl ?_
    refine mb_VL (R' := mRT 7 115) (mc := 1) (ms := 6) (fun j => j) (fun h => h ++ [eo f]) (fun _ _ => []) (fun q dT => [(q 67, mx_e q dT (eo f))]) [.int x, .int y] [.int 0, .ref 67] dW_registers_5 rfl rfl mT_G jA_registers_ok jA_registers_v (mT_2 (i := 194) rfl rfl) ⟨rfl, rfl, Nat.le_of_ble_eq_true rfl, Nat.le_of_ble_eq_true rfl⟩ rfl rfl (fun _ _ => rfl) (Nat.le_of_ble_eq_true rfl) (Nat.le_of_ble_eq_true rfl) rfl rfl rfl (fun h hn q dT => hput2 _ h hn q dT) (hW (fun r h => r = .inl (some (.int v)) ∧ h = h2) ⟨rfl, rfl⟩) (fun Y h q => by cases q.1) (fun v2 h q => by obtain ⟨e1, rfl⟩ := q; cases e1; exact ⟨hl, Or.inr ⟨_, rfl⟩⟩) ⟨Nat.le_of_ble_eq_true rfl, Nat.le_of_ble_eq_true rfl⟩ (fun v2 h q => ?_)
    obtain ⟨e1, rfl⟩ := q
    cases e1
    refine mb_i2l dW_registers_8 rfl ?_
    refine mb_last dW_registers_9 (by rw [List.getElem?_append_right (by rw [hl]; exact Nat.le_refl _), hl]; rfl) (vp_in_nI (n := 0) (by decide) (by decide)) ?_
    rw [List.set_append_right _ _ (by rw [hl]; exact Nat.le_refl _), hl]
    refine mb_goto 17 dW_registers_10 rfl ?_
    refine mb_iconst (0) dW_registers_17 (by decide) ?_
    exact mb_iret dW_registers_18 rfl rfl (Nat.le_of_ble_eq_true rfl) (Nat.le_of_ble_eq_true rfl) ⟨rfl, rfl⟩
  · refine mb_aload_n dW_registers_0 rfl ?_
    refine mb_iconst (0) dW_registers_1 (by decide) ?_
    refine mb_aload_n dW_registers_2 rfl ?_
    refine mb_iload_n dW_registers_3 rfl ?_
    refine mb_iload_n dW_registers_4 rfl ?_
    exact mb_VX (R' := mRT 7 115) (pre := []) (post := []) (j9 := 4) (ic := 1) 2 ⟨0, 10, 13, 21⟩ (fun h => h ++ [eo f]) (fun q dT => [(q 67, mx_e q dT (eo f))]) [.int x, .int y] [.int 0, .ref 67] dW_registers_5 rfl mT_G jA_registers_ok jA_registers_v (mT_2 (i := 194) rfl rfl) ⟨Nat.le_of_ble_eq_true rfl, Nat.le_of_ble_eq_true rfl, Nat.le_of_ble_eq_true rfl, Nat.le_of_ble_eq_true rfl⟩ rfl rfl (Nat.le_of_ble_eq_true rfl) (Nat.le_of_ble_eq_true rfl) rfl rfl rfl (fun h hn q dT => hput _ 67 h hn q dT) (hW (fun r h => r = .inr 2 ∧ h = h2) ⟨rfl, rfl⟩) (fun v h q => by cases q.1) (fun Y2 h q => by obtain ⟨e1, rfl⟩ := q; cases e1; exact ⟨rfl, rfl⟩) hl rfl (fun y hy => by cases hy) (by decide) (by decide) (mT_2 (i := 111) rfl rfl) 2 (Or.inl ⟨dW_registers_13, rfl⟩) (Nat.le_of_ble_eq_true rfl) dW_registers_15 rfl dW_registers_16 rfl ⟨rfl, rfl⟩
theorem hh_period {c : Nat} {fil : Int32} {I : Nat → Nat → Int32} {L : Nat → Nat → Int64} {f : Nat → Int64} (hc : c ≤ 12) (hsr : ∀ w, w < 27 → I 12 w ≤ 12) {r : mx_O} {h2 : List va_E} (hA : aPer c fil I L = (r, h2)) (hr : (∃ v, r = .inl (some (.int v))) ∨ r = .inr 3) (hl : h2.length = 67) : mx_B mT mCl jW_period mRH tbW_period none (mx_ZR mCl 1 6 false (fun v h => v = some (.int (hkx [(3, 1)] r)) ∧ h = h2 ++ [(eo (hfo f r))])) false 0 0 0 (mx_pad [.ref 0, .ref 67] 3) [] (pic (nI c) fil I L ++ [eo f]) := by
  have hW : ∀ Q : mx_O → List va_E → Prop, Q r h2 → mx_W mx_K mT mCl jA_period (mRT 7 156) 0 (mx_pad (.ref 0 :: []) jA_period.2.2.1) [] (pic (nI c) fil I L) Q := fun Q hQ => cA_period hc hsr (by rw [hA]; exact hQ)
  rcases hr with ⟨v, rfl⟩ | rfl
  · refine mb_aload_n dW_period_0 rfl ?_
    refine mb_iconst (0) dW_period_1 (by decide) ?_
    refine mb_aload_n dW_period_2 rfl ?_
    refine mb_VL (R' := mRT 7 156) (mc := 1) (ms := 6) (fun j => j) (fun h => h ++ [eo f]) (fun _ _ => []) (fun q dT => [(q 67, mx_e q dT (eo f))]) [] [.int 0, .ref 67] dW_period_3 rfl rfl mT_G jA_period_ok jA_period_v (mT_2 (i := 202) rfl rfl) ⟨rfl, rfl, Nat.le_of_ble_eq_true rfl, Nat.le_of_ble_eq_true rfl⟩ rfl rfl (fun _ _ => rfl) (Nat.le_of_ble_eq_true rfl) (Nat.le_of_ble_eq_true rfl) rfl rfl rfl (fun h hn q dT => hput2 _ h hn q dT) (hW (fun r h => r = .inl (some (.int v)) ∧ h = h2) ⟨rfl, rfl⟩) (fun Y h q => by cases q.1) (fun v2 h q => by obtain ⟨e1, rfl⟩ := q; cases e1; exact ⟨hl, Or.inr ⟨_, rfl⟩⟩) ⟨Nat.le_of_ble_eq_true rfl, Nat.le_of_ble_eq_true rfl⟩ (fun v2 h q => ?_)
    obtain ⟨e1, rfl⟩ := q
    cases e1
    refine mb_i2l dW_period_6 rfl ?_
    refine mb_last dW_period_7 (by rw [List.getElem?_append_right (by rw [hl]; exact Nat.le_refl _), hl]; rfl) (vp_in_nI (n := 0) (by decide) (by decide)) ?_
    rw [List.set_append_right _ _ (by rw [hl]; exact Nat.le_refl _), hl]
    refine mb_goto 14 dW_period_8 rfl ?_
    refine mb_iconst (0) dW_period_14 (by decide) ?_
    exact mb_iret dW_period_15 rfl rfl (Nat.le_of_ble_eq_true rfl) (Nat.le_of_ble_eq_true rfl) ⟨rfl, rfl⟩
  · refine mb_aload_n dW_period_0 rfl ?_
    refine mb_iconst (0) dW_period_1 (by decide) ?_
    refine mb_aload_n dW_period_2 rfl ?_
    exact mb_VX (R' := mRT 7 156) (pre := []) (post := []) (j9 := 2) (ic := 1) 3 ⟨0, 8, 11, 37⟩ (fun h => h ++ [eo f]) (fun q dT => [(q 67, mx_e q dT (eo f))]) [] [.int 0, .ref 67] dW_period_3 rfl mT_G jA_period_ok jA_period_v (mT_2 (i := 202) rfl rfl) ⟨Nat.le_of_ble_eq_true rfl, Nat.le_of_ble_eq_true rfl, Nat.le_of_ble_eq_true rfl, Nat.le_of_ble_eq_true rfl⟩ rfl rfl (Nat.le_of_ble_eq_true rfl) (Nat.le_of_ble_eq_true rfl) rfl rfl rfl (fun h hn q dT => hput _ 67 h hn q dT) (hW (fun r h => r = .inr 3 ∧ h = h2) ⟨rfl, rfl⟩) (fun v h q => by cases q.1) (fun Y2 h q => by obtain ⟨e1, rfl⟩ := q; cases e1; exact ⟨rfl, rfl⟩) hl rfl (fun y hy => by cases hy) (by decide) (by decide) (mT_2 (i := 201) rfl rfl) 1 (Or.inr ⟨2, dW_period_11, rfl, rfl⟩) (Nat.le_of_ble_eq_true rfl) dW_period_12 rfl dW_period_13 rfl ⟨rfl, rfl⟩
theorem hh_weight {c : Nat} {fil : Int32} {I : Nat → Nat → Int32} {L : Nat → Nat → Int64} {f : Nat → Int64} (hc : c ≤ 12) (hsr : ∀ w, w < 27 → I 12 w ≤ 12) {x y : Int32} {r : mx_O} {h2 : List va_E} (hA : aMat 26 c fil I L x y = (r, h2)) (hr : (∃ v, r = .inl (some (.int v))) ∨ r = .inr 2 ∨ r = .inr 3) (hl : h2.length = 67) : mx_B mT mCl jW_weight mRH tbW_weight none (mx_ZR mCl 1 6 false (fun v h => v = some (.int (hkx [(2, 1), (3, 2)] r)) ∧ h = h2 ++ [(eo (hfo f r))])) false 0 0 0 (mx_pad [.ref 0, .int x, .int y, .ref 67] 5) [] (pic (nI c) fil I L ++ [eo f]) := by
  have hW : ∀ Q : mx_O → List va_E → Prop, Q r h2 → mx_W mx_K mT mCl jA_weight (mRT 7 156) 0 (mx_pad (.ref 0 :: [.int x, .int y]) jA_weight.2.2.1) [] (pic (nI c) fil I L) Q := fun Q hQ => cA_weight hc hsr (by rw [hA]; exact hQ)
  rcases hr with ⟨v, rfl⟩ | rfl | rfl
  · refine mb_aload_n dW_weight_0 rfl ?_
    refine mb_iconst (0) dW_weight_1 (by decide) ?_
    refine mb_aload_n dW_weight_2 rfl ?_
    refine mb_iload_n dW_weight_3 rfl ?_
    refine mb_iload_n dW_weight_4 rfl ?_
    refine mb_VL (R' := mRT 7 156) (mc := 1) (ms := 6) (fun j => j) (fun h => h ++ [eo f]) (fun _ _ => []) (fun q dT => [(q 67, mx_e q dT (eo f))]) [.int x, .int y] [.int 0, .ref 67] dW_weight_5 rfl rfl mT_G jA_weight_ok jA_weight_v (mT_3 (i := 15) rfl rfl) ⟨rfl, rfl, Nat.le_of_ble_eq_true rfl, Nat.le_of_ble_eq_true rfl⟩ rfl rfl (fun _ _ => rfl) (Nat.le_of_ble_eq_true rfl) (Nat.le_of_ble_eq_true rfl) rfl rfl rfl (fun h hn q dT => hput2 _ h hn q dT) (hW (fun r h => r = .inl (some (.int v)) ∧ h = h2) ⟨rfl, rfl⟩) (fun Y h q => by cases q.1) (fun v2 h q => by obtain ⟨e1, rfl⟩ := q; cases e1; exact ⟨hl, Or.inr ⟨_, rfl⟩⟩) ⟨Nat.le_of_ble_eq_true rfl, Nat.le_of_ble_eq_true rfl⟩ (fun v2 h q => ?_)
    obtain ⟨e1, rfl⟩ := q
    cases e1
    refine mb_i2l dW_weight_8 rfl ?_
    refine mb_last dW_weight_9 (by rw [List.getElem?_append_right (by rw [hl]; exact Nat.le_refl _), hl]; rfl) (vp_in_nI (n := 0) (by decide) (by decide)) ?_
    rw [List.set_append_right _ _ (by rw [hl]; exact Nat.le_refl _), hl]
    refine mb_goto 21 dW_weight_10 rfl ?_
    refine mb_iconst (0) dW_weight_21 (by decide) ?_
    exact mb_iret dW_weight_22 rfl rfl (Nat.le_of_ble_eq_true rfl) (Nat.le_of_ble_eq_true rfl) ⟨rfl, rfl⟩
  · refine mb_aload_n dW_weight_0 rfl ?_
    refine mb_iconst (0) dW_weight_1 (by decide) ?_
    refine mb_aload_n dW_weight_2 rfl ?_
    refine mb_iload_n dW_weight_3 rfl ?_
    refine mb_iload_n dW_weight_4 rfl ?_
    exact mb_VX (R' := mRT 7 156) (pre := []) (post := [⟨0, 10, 17, 37⟩]) (j9 := 4) (ic := 1) 2 ⟨0, 10, 13, 21⟩ (fun h => h ++ [eo f]) (fun q dT => [(q 67, mx_e q dT (eo f))]) [.int x, .int y] [.int 0, .ref 67] dW_weight_5 rfl mT_G jA_weight_ok jA_weight_v (mT_3 (i := 15) rfl rfl) ⟨Nat.le_of_ble_eq_true rfl, Nat.le_of_ble_eq_true rfl, Nat.le_of_ble_eq_true rfl, Nat.le_of_ble_eq_true rfl⟩ rfl rfl (Nat.le_of_ble_eq_true rfl) (Nat.le_of_ble_eq_true rfl) rfl rfl rfl (fun h hn q dT => hput _ 67 h hn q dT) (hW (fun r h => r = .inr 2 ∧ h = h2) ⟨rfl, rfl⟩) (fun v h q => by cases q.1) (fun Y2 h q => by obtain ⟨e1, rfl⟩ := q; cases e1; exact ⟨rfl, rfl⟩) hl rfl (fun y hy => by cases hy) (by decide) (by decide) (mT_2 (i := 111) rfl rfl) 2 (Or.inl ⟨dW_weight_13, rfl⟩) (Nat.le_of_ble_eq_true rfl) dW_weight_15 rfl dW_weight_16 rfl ⟨rfl, rfl⟩
  · refine mb_aload_n dW_weight_0 rfl ?_
    refine mb_iconst (0) dW_weight_1 (by decide) ?_
    refine mb_aload_n dW_weight_2 rfl ?_
    refine mb_iload_n dW_weight_3 rfl ?_
    refine mb_iload_n dW_weight_4 rfl ?_
    exact mb_VX (R' := mRT 7 156) (pre := [⟨0, 10, 13, 21⟩]) (post := []) (j9 := 4) (ic := 2) 3 ⟨0, 10, 17, 37⟩ (fun h => h ++ [eo f]) (fun q dT => [(q 67, mx_e q dT (eo f))]) [.int x, .int y] [.int 0, .ref 67] dW_weight_5 rfl mT_G jA_weight_ok jA_weight_v (mT_3 (i := 15) rfl rfl) ⟨Nat.le_of_ble_eq_true rfl, Nat.le_of_ble_eq_true rfl, Nat.le_of_ble_eq_true rfl, Nat.le_of_ble_eq_true rfl⟩ rfl rfl (Nat.le_of_ble_eq_true rfl) (Nat.le_of_ble_eq_true rfl) rfl rfl rfl (fun h hn q dT => hput _ 67 h hn q dT) (hW (fun r h => r = .inr 3 ∧ h = h2) ⟨rfl, rfl⟩) (fun v h q => by cases q.1) (fun Y2 h q => by obtain ⟨e1, rfl⟩ := q; cases e1; exact ⟨rfl, rfl⟩) hl rfl (fun y hy => by rw [List.mem_singleton.mp hy]; exact ⟨(by decide), "java/util/NoSuchElementException", (mT_2 (i := 111) rfl rfl), (by decide)⟩) (by decide) (by decide) (mT_2 (i := 201) rfl rfl) 2 (Or.inl ⟨dW_weight_17, rfl⟩) (Nat.le_of_ble_eq_true rfl) dW_weight_19 rfl dW_weight_20 rfl ⟨rfl, rfl⟩
theorem hh_delay {c : Nat} {fil : Int32} {I : Nat → Nat → Int32} {L : Nat → Nat → Int64} {f : Nat → Int64} (hc : c ≤ 12) (hsr : ∀ w, w < 27 → I 12 w ≤ 12) {x y : Int32} {r : mx_O} {h2 : List va_E} (hA : aMat 39 c fil I L x y = (r, h2)) (hr : (∃ v, r = .inl (some (.int v))) ∨ r = .inr 2 ∨ r = .inr 3) (hl : h2.length = 67) : mx_B mT mCl jW_delay mRH tbW_delay none (mx_ZR mCl 1 6 false (fun v h => v = some (.int (hkx [(2, 1), (3, 2)] r)) ∧ h = h2 ++ [(eo (hfo f r))])) false 0 0 0 (mx_pad [.ref 0, .int x, .int y, .ref 67] 5) [] (pic (nI c) fil I L ++ [eo f]) := by
  have hW : ∀ Q : mx_O → List va_E → Prop, Q r h2 → mx_W mx_K mT mCl jA_delay (mRT 7 156) 0 (mx_pad (.ref 0 :: [.int x, .int y]) jA_delay.2.2.1) [] (pic (nI c) fil I L) Q := fun Q hQ => cA_delay hc hsr (by rw [hA]; exact hQ)
  rcases hr with ⟨v, rfl⟩ | rfl | rfl
  · refine mb_aload_n dW_delay_0 rfl ?_
    refine mb_iconst (0) dW_delay_1 (by decide) ?_
    refine mb_aload_n dW_delay_2 rfl ?_
    refine mb_iload_n dW_delay_3 rfl ?_
    refine mb_iload_n dW_delay_4 rfl ?_
    refine mb_VL (R' := mRT 7 156) (mc := 1) (ms := 6) (fun j => j) (fun h => h ++ [eo f]) (fun _ _ => []) (fun q dT => [(q 67, mx_e q dT (eo f))]) [.int x, .int y] [.int 0, .ref 67] dW_delay_5 rfl rfl mT_G jA_delay_ok jA_delay_v (mT_3 (i := 27) rfl rfl) ⟨rfl, rfl, Nat.le_of_ble_eq_true rfl, Nat.le_of_ble_eq_true rfl⟩ rfl rfl (fun _ _ => rfl) (Nat.le_of_ble_eq_true rfl) (Nat.le_of_ble_eq_true rfl) rfl rfl rfl (fun h hn q dT => hput2 _ h hn q dT) (hW (fun r h => r = .inl (some (.int v)) ∧ h = h2) ⟨rfl, rfl⟩) (fun Y h q => by cases q.1) (fun v2 h q => by obtain ⟨e1, rfl⟩ := q; cases e1; exact ⟨hl, Or.inr ⟨_, rfl⟩⟩) ⟨Nat.le_of_ble_eq_true rfl, Nat.le_of_ble_eq_true rfl⟩ (fun v2 h q => ?_)
    obtain ⟨e1, rfl⟩ := q
    cases e1
    refine mb_i2l dW_delay_8 rfl ?_
    refine mb_last dW_delay_9 (by rw [List.getElem?_append_right (by rw [hl]; exact Nat.le_refl _), hl]; rfl) (vp_in_nI (n := 0) (by decide) (by decide)) ?_
    rw [List.set_append_right _ _ (by rw [hl]; exact Nat.le_refl _), hl]
    refine mb_goto 21 dW_delay_10 rfl ?_
    refine mb_iconst (0) dW_delay_21 (by decide) ?_
    exact mb_iret dW_delay_22 rfl rfl (Nat.le_of_ble_eq_true rfl) (Nat.le_of_ble_eq_true rfl) ⟨rfl, rfl⟩
  · refine mb_aload_n dW_delay_0 rfl ?_
    refine mb_iconst (0) dW_delay_1 (by decide) ?_
    refine mb_aload_n dW_delay_2 rfl ?_
    refine mb_iload_n dW_delay_3 rfl ?_
    refine mb_iload_n dW_delay_4 rfl ?_
    exact mb_VX (R' := mRT 7 156) (pre := []) (post := [⟨0, 10, 17, 37⟩]) (j9 := 4) (ic := 1) 2 ⟨0, 10, 13, 21⟩ (fun h => h ++ [eo f]) (fun q dT => [(q 67, mx_e q dT (eo f))]) [.int x, .int y] [.int 0, .ref 67] dW_delay_5 rfl mT_G jA_delay_ok jA_delay_v (mT_3 (i := 27) rfl rfl) ⟨Nat.le_of_ble_eq_true rfl, Nat.le_of_ble_eq_true rfl, Nat.le_of_ble_eq_true rfl, Nat.le_of_ble_eq_true rfl⟩ rfl rfl (Nat.le_of_ble_eq_true rfl) (Nat.le_of_ble_eq_true rfl) rfl rfl rfl (fun h hn q dT => hput _ 67 h hn q dT) (hW (fun r h => r = .inr 2 ∧ h = h2) ⟨rfl, rfl⟩) (fun v h q => by cases q.1) (fun Y2 h q => by obtain ⟨e1, rfl⟩ := q; cases e1; exact ⟨rfl, rfl⟩) hl rfl (fun y hy => by cases hy) (by decide) (by decide) (mT_2 (i := 111) rfl rfl) 2 (Or.inl ⟨dW_delay_13, rfl⟩) (Nat.le_of_ble_eq_true rfl) dW_delay_15 rfl dW_delay_16 rfl ⟨rfl, rfl⟩
  · refine mb_aload_n dW_delay_0 rfl ?_
    refine mb_iconst (0) dW_delay_1 (by decide) ?_
    refine mb_aload_n dW_delay_2 rfl ?_
    refine mb_iload_n dW_delay_3 rfl ?_
    refine mb_iload_n dW_delay_4 rfl ?_
    exact mb_VX (R' := mRT 7 156) (pre := [⟨0, 10, 13, 21⟩]) (post := []) (j9 := 4) (ic := 2) 3 ⟨0, 10, 17, 37⟩ (fun h => h ++ [eo f]) (fun q dT => [(q 67, mx_e q dT (eo f))]) [.int x, .int y] [.int 0, .ref 67] dW_delay_5 rfl mT_G jA_delay_ok jA_delay_v (mT_3 (i := 27) rfl rfl) ⟨Nat.le_of_ble_eq_true rfl, Nat.le_of_ble_eq_true rfl, Nat.le_of_ble_eq_true rfl, Nat.le_of_ble_eq_true rfl⟩ rfl rfl (Nat.le_of_ble_eq_true rfl) (Nat.le_of_ble_eq_true rfl) rfl rfl rfl (fun h hn q dT => hput _ 67 h hn q dT) (hW (fun r h => r = .inr 3 ∧ h = h2) ⟨rfl, rfl⟩) (fun v h q => by cases q.1) (fun Y2 h q => by obtain ⟨e1, rfl⟩ := q; cases e1; exact ⟨rfl, rfl⟩) hl rfl (fun y hy => by rw [List.mem_singleton.mp hy]; exact ⟨(by decide), "java/util/NoSuchElementException", (mT_2 (i := 111) rfl rfl), (by decide)⟩) (by decide) (by decide) (mT_2 (i := 201) rfl rfl) 2 (Or.inl ⟨dW_delay_17, rfl⟩) (Nat.le_of_ble_eq_true rfl) dW_delay_19 rfl dW_delay_20 rfl ⟨rfl, rfl⟩
theorem hh_least {c : Nat} {fil : Int32} {I : Nat → Nat → Int32} {L : Nat → Nat → Int64} {f : Nat → Int64} (hc : c ≤ 12) (hsr : ∀ w, w < 27 → I 12 w ≤ 12) {r : mx_O} {h2 : List va_E} (hA : aLst c fil I L = (r, h2)) (hr : (∃ v, r = .inl (some (.int v))) ∨ r = .inr 3) (hl : h2.length = 67) : mx_B mT mCl jW_least mRH tbW_least none (mx_ZR mCl 1 6 false (fun v h => v = some (.int (hkx [(3, 1)] r)) ∧ h = h2 ++ [(eo (hfo f r))])) false 0 0 0 (mx_pad [.ref 0, .ref 67] 3) [] (pic (nI c) fil I L ++ [eo f]) := by
  have hW : ∀ Q : mx_O → List va_E → Prop, Q r h2 → mx_W mx_K mT mCl jA_least (mRT 7 156) 0 (mx_pad (.ref 0 :: []) jA_least.2.2.1) [] (pic (nI c) fil I L) Q := fun Q hQ => cA_least hc hsr (by rw [hA]; exact hQ)
  rcases hr with ⟨v, rfl⟩ | rfl
  · refine mb_aload_n dW_least_0 rfl ?_
    refine mb_iconst (0) dW_least_1 (by decide) ?_
    refine mb_aload_n dW_least_2 rfl ?_
    refine mb_VL (R' := mRT 7 156) (mc := 1) (ms := 6) (fun j => j) (fun h => h ++ [eo f]) (fun _ _ => []) (fun q dT => [(q 67, mx_e q dT (eo f))]) [] [.int 0, .ref 67] dW_least_3 rfl rfl mT_G jA_least_ok jA_least_v (mT_3 (i := 34) rfl rfl) ⟨rfl, rfl, Nat.le_of_ble_eq_true rfl, Nat.le_of_ble_eq_true rfl⟩ rfl rfl (fun _ _ => rfl) (Nat.le_of_ble_eq_true rfl) (Nat.le_of_ble_eq_true rfl) rfl rfl rfl (fun h hn q dT => hput2 _ h hn q dT) (hW (fun r h => r = .inl (some (.int v)) ∧ h = h2) ⟨rfl, rfl⟩) (fun Y h q => by cases q.1) (fun v2 h q => by obtain ⟨e1, rfl⟩ := q; cases e1; exact ⟨hl, Or.inr ⟨_, rfl⟩⟩) ⟨Nat.le_of_ble_eq_true rfl, Nat.le_of_ble_eq_true rfl⟩ (fun v2 h q => ?_)
    obtain ⟨e1, rfl⟩ := q
    cases e1
    refine mb_i2l dW_least_6 rfl ?_
    refine mb_last dW_least_7 (by rw [List.getElem?_append_right (by rw [hl]; exact Nat.le_refl _), hl]; rfl) (vp_in_nI (n := 0) (by decide) (by decide)) ?_
    rw [List.set_append_right _ _ (by rw [hl]; exact Nat.le_refl _), hl]
    refine mb_goto 14 dW_least_8 rfl ?_
    refine mb_iconst (0) dW_least_14 (by decide) ?_
    exact mb_iret dW_least_15 rfl rfl (Nat.le_of_ble_eq_true rfl) (Nat.le_of_ble_eq_true rfl) ⟨rfl, rfl⟩
  · refine mb_aload_n dW_least_0 rfl ?_
    refine mb_iconst (0) dW_least_1 (by decide) ?_
    refine mb_aload_n dW_least_2 rfl ?_
    exact mb_VX (R' := mRT 7 156) (pre := []) (post := []) (j9 := 2) (ic := 1) 3 ⟨0, 8, 11, 37⟩ (fun h => h ++ [eo f]) (fun q dT => [(q 67, mx_e q dT (eo f))]) [] [.int 0, .ref 67] dW_least_3 rfl mT_G jA_least_ok jA_least_v (mT_3 (i := 34) rfl rfl) ⟨Nat.le_of_ble_eq_true rfl, Nat.le_of_ble_eq_true rfl, Nat.le_of_ble_eq_true rfl, Nat.le_of_ble_eq_true rfl⟩ rfl rfl (Nat.le_of_ble_eq_true rfl) (Nat.le_of_ble_eq_true rfl) rfl rfl rfl (fun h hn q dT => hput _ 67 h hn q dT) (hW (fun r h => r = .inr 3 ∧ h = h2) ⟨rfl, rfl⟩) (fun v h q => by cases q.1) (fun Y2 h q => by obtain ⟨e1, rfl⟩ := q; cases e1; exact ⟨rfl, rfl⟩) hl rfl (fun y hy => by cases hy) (by decide) (by decide) (mT_2 (i := 201) rfl rfl) 1 (Or.inr ⟨2, dW_least_11, rfl, rfl⟩) (Nat.le_of_ble_eq_true rfl) dW_least_12 rfl dW_least_13 rfl ⟨rfl, rfl⟩
theorem hh_shared {c : Nat} {fil : Int32} {I : Nat → Nat → Int32} {L : Nat → Nat → Int64} {f : Nat → Int64} (hc : c ≤ 12) (hsr : ∀ w, w < 27 → I 12 w ≤ 12) {r : mx_O} {h2 : List va_E} (hA : aShr c fil I L = (r, h2)) (hr : (∃ v, r = .inl (some (.int v))) ∨ r = .inr 3) (hl : h2.length = 67) : mx_B mT mCl jW_shared mRH tbW_shared none (mx_ZR mCl 1 6 false (fun v h => v = some (.int (hkx [(3, 1)] r)) ∧ h = h2 ++ [(eo (hfo f r))])) false 0 0 0 (mx_pad [.ref 0, .ref 67] 3) [] (pic (nI c) fil I L ++ [eo f]) := by
  have hW : ∀ Q : mx_O → List va_E → Prop, Q r h2 → mx_W mx_K mT mCl jA_shared (mRT 7 156) 0 (mx_pad (.ref 0 :: []) jA_shared.2.2.1) [] (pic (nI c) fil I L) Q := fun Q hQ => cA_shared hc hsr (by rw [hA]; exact hQ)
  rcases hr with ⟨v, rfl⟩ | rfl
  · refine mb_aload_n dW_shared_0 rfl ?_
    refine mb_iconst (0) dW_shared_1 (by decide) ?_
    refine mb_aload_n dW_shared_2 rfl ?_
    refine mb_VL (R' := mRT 7 156) (mc := 1) (ms := 6) (fun j => j) (fun h => h ++ [eo f]) (fun _ _ => []) (fun q dT => [(q 67, mx_e q dT (eo f))]) [] [.int 0, .ref 67] dW_shared_3 rfl rfl mT_G jA_shared_ok jA_shared_v (mT_3 (i := 75) rfl rfl) ⟨rfl, rfl, Nat.le_of_ble_eq_true rfl, Nat.le_of_ble_eq_true rfl⟩ rfl rfl (fun _ _ => rfl) (Nat.le_of_ble_eq_true rfl) (Nat.le_of_ble_eq_true rfl) rfl rfl rfl (fun h hn q dT => hput2 _ h hn q dT) (hW (fun r h => r = .inl (some (.int v)) ∧ h = h2) ⟨rfl, rfl⟩) (fun Y h q => by cases q.1) (fun v2 h q => by obtain ⟨e1, rfl⟩ := q; cases e1; exact ⟨hl, Or.inr ⟨_, rfl⟩⟩) ⟨Nat.le_of_ble_eq_true rfl, Nat.le_of_ble_eq_true rfl⟩ (fun v2 h q => ?_)
    obtain ⟨e1, rfl⟩ := q
    cases e1
    refine mb_i2l dW_shared_6 rfl ?_
    refine mb_last dW_shared_7 (by rw [List.getElem?_append_right (by rw [hl]; exact Nat.le_refl _), hl]; rfl) (vp_in_nI (n := 0) (by decide) (by decide)) ?_
    rw [List.set_append_right _ _ (by rw [hl]; exact Nat.le_refl _), hl]
    refine mb_goto 14 dW_shared_8 rfl ?_
    refine mb_iconst (0) dW_shared_14 (by decide) ?_
    exact mb_iret dW_shared_15 rfl rfl (Nat.le_of_ble_eq_true rfl) (Nat.le_of_ble_eq_true rfl) ⟨rfl, rfl⟩
  · refine mb_aload_n dW_shared_0 rfl ?_
    refine mb_iconst (0) dW_shared_1 (by decide) ?_
    refine mb_aload_n dW_shared_2 rfl ?_
    exact mb_VX (R' := mRT 7 156) (pre := []) (post := []) (j9 := 2) (ic := 1) 3 ⟨0, 8, 11, 37⟩ (fun h => h ++ [eo f]) (fun q dT => [(q 67, mx_e q dT (eo f))]) [] [.int 0, .ref 67] dW_shared_3 rfl mT_G jA_shared_ok jA_shared_v (mT_3 (i := 75) rfl rfl) ⟨Nat.le_of_ble_eq_true rfl, Nat.le_of_ble_eq_true rfl, Nat.le_of_ble_eq_true rfl, Nat.le_of_ble_eq_true rfl⟩ rfl rfl (Nat.le_of_ble_eq_true rfl) (Nat.le_of_ble_eq_true rfl) rfl rfl rfl (fun h hn q dT => hput _ 67 h hn q dT) (hW (fun r h => r = .inr 3 ∧ h = h2) ⟨rfl, rfl⟩) (fun v h q => by cases q.1) (fun Y2 h q => by obtain ⟨e1, rfl⟩ := q; cases e1; exact ⟨rfl, rfl⟩) hl rfl (fun y hy => by cases hy) (by decide) (by decide) (mT_2 (i := 201) rfl rfl) 1 (Or.inr ⟨2, dW_shared_11, rfl, rfl⟩) (Nat.le_of_ble_eq_true rfl) dW_shared_12 rfl dW_shared_13 rfl ⟨rfl, rfl⟩
theorem hh_retime {c : Nat} {fil : Int32} {I : Nat → Nat → Int32} {L : Nat → Nat → Int64} {f : Nat → Int64} (hc : c ≤ 12) (hsr : ∀ w, w < 27 → I 12 w ≤ 12) {x : Int32} {r : mx_O} {h2 : List va_E} (hA : aRet c fil I L x = (r, h2)) (hr : (∃ v, r = .inl (some (.int v))) ∨ r = .inr 3 ∨ r = .inr 0) (hl : h2.length = 67) : mx_B mT mCl jW_retime mRH tbW_retime none (mx_ZR mCl 1 6 false (fun v h => v = some (.int (hkx [(3, 1), (0, 2)] r)) ∧ h = h2 ++ [(eo (hfo f r))])) false 0 0 0 (mx_pad [.ref 0, .int x, .ref 67] 4) [] (pic (nI c) fil I L ++ [eo f]) := by
  have hW : ∀ Q : mx_O → List va_E → Prop, Q r h2 → mx_W mx_K mT mCl jA_retime (mRT 7 156) 0 (mx_pad (.ref 0 :: [.int x]) jA_retime.2.2.1) [] (pic (nI c) fil I L) Q := fun Q hQ => cA_retime hc hsr (by rw [hA]; exact hQ)
  rcases hr with ⟨v, rfl⟩ | rfl | rfl
  · refine mb_aload_n dW_retime_0 rfl ?_
    refine mb_iconst (0) dW_retime_1 (by decide) ?_
    refine mb_aload_n dW_retime_2 rfl ?_
    refine mb_iload_n dW_retime_3 rfl ?_
    refine mb_VL (R' := mRT 7 156) (mc := 1) (ms := 6) (fun j => j) (fun h => h ++ [eo f]) (fun _ _ => []) (fun q dT => [(q 67, mx_e q dT (eo f))]) [.int x] [.int 0, .ref 67] dW_retime_4 rfl rfl mT_G jA_retime_ok jA_retime_v (mT_3 (i := 87) rfl rfl) ⟨rfl, rfl, Nat.le_of_ble_eq_true rfl, Nat.le_of_ble_eq_true rfl⟩ rfl rfl (fun _ _ => rfl) (Nat.le_of_ble_eq_true rfl) (Nat.le_of_ble_eq_true rfl) rfl rfl rfl (fun h hn q dT => hput2 _ h hn q dT) (hW (fun r h => r = .inl (some (.int v)) ∧ h = h2) ⟨rfl, rfl⟩) (fun Y h q => by cases q.1) (fun v2 h q => by obtain ⟨e1, rfl⟩ := q; cases e1; exact ⟨hl, Or.inr ⟨_, rfl⟩⟩) ⟨Nat.le_of_ble_eq_true rfl, Nat.le_of_ble_eq_true rfl⟩ (fun v2 h q => ?_)
    obtain ⟨e1, rfl⟩ := q
    cases e1
    refine mb_i2l dW_retime_7 rfl ?_
    refine mb_last dW_retime_8 (by rw [List.getElem?_append_right (by rw [hl]; exact Nat.le_refl _), hl]; rfl) (vp_in_nI (n := 0) (by decide) (by decide)) ?_
    rw [List.set_append_right _ _ (by rw [hl]; exact Nat.le_refl _), hl]
    refine mb_goto 18 dW_retime_9 rfl ?_
    refine mb_iconst (0) dW_retime_18 (by decide) ?_
    exact mb_iret dW_retime_19 rfl rfl (Nat.le_of_ble_eq_true rfl) (Nat.le_of_ble_eq_true rfl) ⟨rfl, rfl⟩
  · refine mb_aload_n dW_retime_0 rfl ?_
    refine mb_iconst (0) dW_retime_1 (by decide) ?_
    refine mb_aload_n dW_retime_2 rfl ?_
    refine mb_iload_n dW_retime_3 rfl ?_
    exact mb_VX (R' := mRT 7 156) (pre := []) (post := [⟨0, 9, 15, 13⟩]) (j9 := 3) (ic := 1) 3 ⟨0, 9, 12, 37⟩ (fun h => h ++ [eo f]) (fun q dT => [(q 67, mx_e q dT (eo f))]) [.int x] [.int 0, .ref 67] dW_retime_4 rfl mT_G jA_retime_ok jA_retime_v (mT_3 (i := 87) rfl rfl) ⟨Nat.le_of_ble_eq_true rfl, Nat.le_of_ble_eq_true rfl, Nat.le_of_ble_eq_true rfl, Nat.le_of_ble_eq_true rfl⟩ rfl rfl (Nat.le_of_ble_eq_true rfl) (Nat.le_of_ble_eq_true rfl) rfl rfl rfl (fun h hn q dT => hput _ 67 h hn q dT) (hW (fun r h => r = .inr 3 ∧ h = h2) ⟨rfl, rfl⟩) (fun v h q => by cases q.1) (fun Y2 h q => by obtain ⟨e1, rfl⟩ := q; cases e1; exact ⟨rfl, rfl⟩) hl rfl (fun y hy => by cases hy) (by decide) (by decide) (mT_2 (i := 201) rfl rfl) 1 (Or.inr ⟨3, dW_retime_12, rfl, rfl⟩) (Nat.le_of_ble_eq_true rfl) dW_retime_13 rfl dW_retime_14 rfl ⟨rfl, rfl⟩
  · refine mb_aload_n dW_retime_0 rfl ?_
    refine mb_iconst (0) dW_retime_1 (by decide) ?_
    refine mb_aload_n dW_retime_2 rfl ?_
    refine mb_iload_n dW_retime_3 rfl ?_
    exact mb_VX (R' := mRT 7 156) (pre := [⟨0, 9, 12, 37⟩]) (post := []) (j9 := 3) (ic := 2) 0 ⟨0, 9, 15, 13⟩ (fun h => h ++ [eo f]) (fun q dT => [(q 67, mx_e q dT (eo f))]) [.int x] [.int 0, .ref 67] dW_retime_4 rfl mT_G jA_retime_ok jA_retime_v (mT_3 (i := 87) rfl rfl) ⟨Nat.le_of_ble_eq_true rfl, Nat.le_of_ble_eq_true rfl, Nat.le_of_ble_eq_true rfl, Nat.le_of_ble_eq_true rfl⟩ rfl rfl (Nat.le_of_ble_eq_true rfl) (Nat.le_of_ble_eq_true rfl) rfl rfl rfl (fun h hn q dT => hput _ 67 h hn q dT) (hW (fun r h => r = .inr 0 ∧ h = h2) ⟨rfl, rfl⟩) (fun v h q => by cases q.1) (fun Y2 h q => by obtain ⟨e1, rfl⟩ := q; cases e1; exact ⟨rfl, rfl⟩) hl rfl (fun y hy => by rw [List.mem_singleton.mp hy]; exact ⟨(by decide), "java/lang/IllegalStateException", (mT_2 (i := 201) rfl rfl), (by decide)⟩) (by decide) (by decide) (mT_2 (i := 19) rfl rfl) 1 (Or.inr ⟨3, dW_retime_15, rfl, rfl⟩) (Nat.le_of_ble_eq_true rfl) dW_retime_16 rfl dW_retime_17 rfl ⟨rfl, rfl⟩
theorem hh_label {c : Nat} {fil : Int32} {I : Nat → Nat → Int32} {L : Nat → Nat → Int64} {f : Nat → Int64} (hc : c ≤ 12) {x : Int32} {r : mx_O} {h2 : List va_E} (hA : aLabel c fil I L x = (r, h2)) (hr : (∃ v, r = .inl (some (.int v))) ∨ r = .inr 2) (hl : h2.length = 67) : mx_B mT mCl jW_label mRH tbW_label none (mx_ZR mCl 1 6 false (fun v h => v = some (.int (hkx [(2, 1)] r)) ∧ h = h2 ++ [(eo (hfo f r))])) false 0 0 0 (mx_pad [.ref 0, .int x, .ref 67] 4) [] (pic (nI c) fil I L ++ [eo f]) := by
  have hW : ∀ Q : mx_O → List va_E → Prop, Q r h2 → mx_W mx_K mT mCl jA_label (mRT 7 113) 0 (mx_pad (.ref 0 :: [.int x]) jA_label.2.2.1) [] (pic (nI c) fil I L) Q := fun Q hQ => cA_label hc (by rw [hA]; exact hQ)
  rcases hr with ⟨v, rfl⟩ | rfl
  · refine mb_aload_n dW_label_0 rfl ?_
    refine mb_iconst (0) dW_label_1 (by decide) ?_
    refine mb_aload_n dW_label_2 rfl ?_
    refine mb_iload_n dW_label_3 rfl ?_
    refine mb_VL (R' := mRT 7 113) (mc := 1) (ms := 6) (fun j => j) (fun h => h ++ [eo f]) (fun _ _ => []) (fun q dT => [(q 67, mx_e q dT (eo f))]) [.int x] [.int 0, .ref 67] dW_label_4 rfl rfl mT_G jA_label_ok jA_label_v (mT_3 (i := 162) rfl rfl) ⟨rfl, rfl, Nat.le_of_ble_eq_true rfl, Nat.le_of_ble_eq_true rfl⟩ rfl rfl (fun _ _ => rfl) (Nat.le_of_ble_eq_true rfl) (Nat.le_of_ble_eq_true rfl) rfl rfl rfl (fun h hn q dT => hput2 _ h hn q dT) (hW (fun r h => r = .inl (some (.int v)) ∧ h = h2) ⟨rfl, rfl⟩) (fun Y h q => by cases q.1) (fun v2 h q => by obtain ⟨e1, rfl⟩ := q; cases e1; exact ⟨hl, Or.inr ⟨_, rfl⟩⟩) ⟨Nat.le_of_ble_eq_true rfl, Nat.le_of_ble_eq_true rfl⟩ (fun v2 h q => ?_)
    obtain ⟨e1, rfl⟩ := q
    cases e1
    refine mb_i2l dW_label_7 rfl ?_
    refine mb_last dW_label_8 (by rw [List.getElem?_append_right (by rw [hl]; exact Nat.le_refl _), hl]; rfl) (vp_in_nI (n := 0) (by decide) (by decide)) ?_
    rw [List.set_append_right _ _ (by rw [hl]; exact Nat.le_refl _), hl]
    refine mb_goto 15 dW_label_9 rfl ?_
    refine mb_iconst (0) dW_label_15 (by decide) ?_
    exact mb_iret dW_label_16 rfl rfl (Nat.le_of_ble_eq_true rfl) (Nat.le_of_ble_eq_true rfl) ⟨rfl, rfl⟩
  · refine mb_aload_n dW_label_0 rfl ?_
    refine mb_iconst (0) dW_label_1 (by decide) ?_
    refine mb_aload_n dW_label_2 rfl ?_
    refine mb_iload_n dW_label_3 rfl ?_
    exact mb_VX (R' := mRT 7 113) (pre := []) (post := []) (j9 := 3) (ic := 1) 2 ⟨0, 9, 12, 21⟩ (fun h => h ++ [eo f]) (fun q dT => [(q 67, mx_e q dT (eo f))]) [.int x] [.int 0, .ref 67] dW_label_4 rfl mT_G jA_label_ok jA_label_v (mT_3 (i := 162) rfl rfl) ⟨Nat.le_of_ble_eq_true rfl, Nat.le_of_ble_eq_true rfl, Nat.le_of_ble_eq_true rfl, Nat.le_of_ble_eq_true rfl⟩ rfl rfl (Nat.le_of_ble_eq_true rfl) (Nat.le_of_ble_eq_true rfl) rfl rfl rfl (fun h hn q dT => hput _ 67 h hn q dT) (hW (fun r h => r = .inr 2 ∧ h = h2) ⟨rfl, rfl⟩) (fun v h q => by cases q.1) (fun Y2 h q => by obtain ⟨e1, rfl⟩ := q; cases e1; exact ⟨rfl, rfl⟩) hl rfl (fun y hy => by cases hy) (by decide) (by decide) (mT_2 (i := 111) rfl rfl) 1 (Or.inr ⟨3, dW_label_12, rfl, rfl⟩) (Nat.le_of_ble_eq_true rfl) dW_label_13 rfl dW_label_14 rfl ⟨rfl, rfl⟩
theorem hh_tick {c : Nat} {fil : Int32} {I : Nat → Nat → Int32} {L : Nat → Nat → Int64} {f : Nat → Int64} (hc : c ≤ 12) (hsr : ∀ w, w < 27 → I 12 w ≤ 12) (hv : ∀ w, w < 27 → vp_in (3 + I 12 w) 16) {x y w : Int32} {r : mx_O} {h2 : List va_E} (hA : aTick c fil I L x y w = (r, h2)) (hr : (∃ v, r = .inl (some (.int v))) ∨ r = .inr 3 ∨ r = .inr 0) (hl : h2.length = 67) : mx_B mT mCl jW_tick mRH tbW_tick none (mx_ZR mCl 1 6 false (fun v h => v = some (.int (hkx [(3, 1), (0, 2)] r)) ∧ h = h2 ++ [(eo (hfo f r))])) false 0 0 0 (mx_pad [.ref 0, .int x, .int y, .int w, .ref 67] 6) [] (pic (nI c) fil I L ++ [eo f]) := by
  have hW : ∀ Q : mx_O → List va_E → Prop, Q r h2 → mx_W mx_K mT mCl jA_tick (mRT 7 156) 0 (mx_pad (.ref 0 :: [.int x, .int y, .int w]) jA_tick.2.2.1) [] (pic (nI c) fil I L) Q := fun Q hQ => cA_tick hc hsr hv (by rw [hA]; exact hQ)
  rcases hr with ⟨v, rfl⟩ | rfl | rfl
  · refine mb_aload dW_tick_0 rfl ?_
    refine mb_iconst (0) dW_tick_2 (by decide) ?_
    refine mb_aload_n dW_tick_3 rfl ?_
    refine mb_iload_n dW_tick_4 rfl ?_
    refine mb_iload_n dW_tick_5 rfl ?_
    refine mb_iload_n dW_tick_6 rfl ?_
    refine mb_VL (R' := mRT 7 156) (mc := 1) (ms := 6) (fun j => j) (fun h => h ++ [eo f]) (fun _ _ => []) (fun q dT => [(q 67, mx_e q dT (eo f))]) [.int x, .int y, .int w] [.int 0, .ref 67] dW_tick_7 rfl rfl mT_G jA_tick_ok jA_tick_v (mT_3 (i := 169) rfl rfl) ⟨rfl, rfl, Nat.le_of_ble_eq_true rfl, Nat.le_of_ble_eq_true rfl⟩ rfl rfl (fun _ _ => rfl) (Nat.le_of_ble_eq_true rfl) (Nat.le_of_ble_eq_true rfl) rfl rfl rfl (fun h hn q dT => hput2 _ h hn q dT) (hW (fun r h => r = .inl (some (.int v)) ∧ h = h2) ⟨rfl, rfl⟩) (fun Y h q => by cases q.1) (fun v2 h q => by obtain ⟨e1, rfl⟩ := q; cases e1; exact ⟨hl, Or.inr ⟨_, rfl⟩⟩) ⟨Nat.le_of_ble_eq_true rfl, Nat.le_of_ble_eq_true rfl⟩ (fun v2 h q => ?_)
    obtain ⟨e1, rfl⟩ := q
    cases e1
    refine mb_i2l dW_tick_10 rfl ?_
    refine mb_last dW_tick_11 (by rw [List.getElem?_append_right (by rw [hl]; exact Nat.le_refl _), hl]; rfl) (vp_in_nI (n := 0) (by decide) (by decide)) ?_
    rw [List.set_append_right _ _ (by rw [hl]; exact Nat.le_refl _), hl]
    refine mb_goto 23 dW_tick_12 rfl ?_
    refine mb_iconst (0) dW_tick_23 (by decide) ?_
    exact mb_iret dW_tick_24 rfl rfl (Nat.le_of_ble_eq_true rfl) (Nat.le_of_ble_eq_true rfl) ⟨rfl, rfl⟩
  · refine mb_aload dW_tick_0 rfl ?_
    refine mb_iconst (0) dW_tick_2 (by decide) ?_
    refine mb_aload_n dW_tick_3 rfl ?_
    refine mb_iload_n dW_tick_4 rfl ?_
    refine mb_iload_n dW_tick_5 rfl ?_
    refine mb_iload_n dW_tick_6 rfl ?_
    exact mb_VX (R' := mRT 7 156) (pre := []) (post := [⟨0, 12, 19, 13⟩]) (j9 := 5) (ic := 1) 3 ⟨0, 12, 15, 37⟩ (fun h => h ++ [eo f]) (fun q dT => [(q 67, mx_e q dT (eo f))]) [.int x, .int y, .int w] [.int 0, .ref 67] dW_tick_7 rfl mT_G jA_tick_ok jA_tick_v (mT_3 (i := 169) rfl rfl) ⟨Nat.le_of_ble_eq_true rfl, Nat.le_of_ble_eq_true rfl, Nat.le_of_ble_eq_true rfl, Nat.le_of_ble_eq_true rfl⟩ rfl rfl (Nat.le_of_ble_eq_true rfl) (Nat.le_of_ble_eq_true rfl) rfl rfl rfl (fun h hn q dT => hput _ 67 h hn q dT) (hW (fun r h => r = .inr 3 ∧ h = h2) ⟨rfl, rfl⟩) (fun v h q => by cases q.1) (fun Y2 h q => by obtain ⟨e1, rfl⟩ := q; cases e1; exact ⟨rfl, rfl⟩) hl rfl (fun y hy => by cases hy) (by decide) (by decide) (mT_2 (i := 201) rfl rfl) 2 (Or.inl ⟨dW_tick_15, rfl⟩) (Nat.le_of_ble_eq_true rfl) dW_tick_17 rfl dW_tick_18 rfl ⟨rfl, rfl⟩
  · refine mb_aload dW_tick_0 rfl ?_
    refine mb_iconst (0) dW_tick_2 (by decide) ?_
    refine mb_aload_n dW_tick_3 rfl ?_
    refine mb_iload_n dW_tick_4 rfl ?_
    refine mb_iload_n dW_tick_5 rfl ?_
    refine mb_iload_n dW_tick_6 rfl ?_
    exact mb_VX (R' := mRT 7 156) (pre := [⟨0, 12, 15, 37⟩]) (post := []) (j9 := 5) (ic := 2) 0 ⟨0, 12, 19, 13⟩ (fun h => h ++ [eo f]) (fun q dT => [(q 67, mx_e q dT (eo f))]) [.int x, .int y, .int w] [.int 0, .ref 67] dW_tick_7 rfl mT_G jA_tick_ok jA_tick_v (mT_3 (i := 169) rfl rfl) ⟨Nat.le_of_ble_eq_true rfl, Nat.le_of_ble_eq_true rfl, Nat.le_of_ble_eq_true rfl, Nat.le_of_ble_eq_true rfl⟩ rfl rfl (Nat.le_of_ble_eq_true rfl) (Nat.le_of_ble_eq_true rfl) rfl rfl rfl (fun h hn q dT => hput _ 67 h hn q dT) (hW (fun r h => r = .inr 0 ∧ h = h2) ⟨rfl, rfl⟩) (fun v h q => by cases q.1) (fun Y2 h q => by obtain ⟨e1, rfl⟩ := q; cases e1; exact ⟨rfl, rfl⟩) hl rfl (fun y hy => by rw [List.mem_singleton.mp hy]; exact ⟨(by decide), "java/lang/IllegalStateException", (mT_2 (i := 201) rfl rfl), (by decide)⟩) (by decide) (by decide) (mT_2 (i := 19) rfl rfl) 2 (Or.inl ⟨dW_tick_19, rfl⟩) (Nat.le_of_ble_eq_true rfl) dW_tick_21 rfl dW_tick_22 rfl ⟨rfl, rfl⟩
