/-! Class and reference agree: retime. -/
section RTM
variable {c : Nat} {fil : Int32} {I X : Nat → Nat → Int32} {L : Nat → Nat → Int64} {J : Nat → Nat → Int32} {k : Int32}
theorem Rel_ext3 {I2 J2 : Nat → Nat → Int32} {L2 : Nat → Nat → Int64} (R : Rel c I L J) (hI : ∀ j, j = 9 ∨ j = 10 ∨ j = 11 ∨ j = 12 ∨ j = 13 ∨ j = 65 → I2 j = I j) (hL : ∀ j, j = 14 ∨ j = 66 → L2 j = L j) (hJ : ∀ j, j = 1 ∨ j = 2 ∨ j = 3 ∨ j = 4 ∨ j = 5 ∨ j = 6 ∨ j = 9 → J2 j = J j) : Rel c I2 L2 J2 := by
  unfold Rel
  rw [hI 9 (by decide), hI 10 (by decide), hI 11 (by decide), hI 12 (by decide), hI 13 (by decide), hI 65 (by decide), hL 14 (by decide), hL 66 (by decide), hJ 1 (by decide), hJ 2 (by decide), hJ 3 (by decide), hJ 4 (by decide), hJ 5 (by decide), hJ 6 (by decide), hJ 9 (by decide)]
  exact R
theorem snd_same {I2 : Nat → Nat → Int32} {L2 : Nat → Nat → Int64} (R : Rel c I L J) (R2 : Rel c I2 L2 J) : sndB c I = sndB c I2 := by rw [snd_eq R, snd_eq R2]
theorem upL_ne (L : Nat → Nat → Int64) {k j : Nat} (f : Nat → Int64) (h : j ≠ k) : upL L k f j = L j := if_neg h
theorem upL_self (L : Nat → Nat → Int64) (k : Nat) (f : Nat → Int64) : upL L k f k = f := if_pos rfl
theorem Cn_ext4 {J2 : Nat → Nat → Int32} (h3 : J2 3 = J 3) (h4 : J2 4 = J 4) (h12 : J2 12 = J 12) (h2 : J2 2 = J 2) (k : Int32) : Cn c J2 k = Cn c J k := by
  funext a b x
  unfold Cn Cw kCt cSr
  rw [h3, h4, h12, h2]
theorem tW_ext {J2 : Nat → Nat → Int32} (h12 : J2 12 = J 12) (h2 : J2 2 = J 2) (h : tW c J k) : tW c J2 k := by
  unfold tW at h ⊢
  rw [h12, h2]
  exact h
theorem MB_ext {D : Nat → Nat → Int → Prop} {X2 : Nat → Nat → Int32} (h : MB c D X) (e : ∀ a, a ≤ c → X2 (52 + a) = X (52 + a)) : MB c D X2 := ⟨fun a b ha hb => by rw [e a ha]; exact h.1 a b ha hb, fun a b x q ha hb => by rw [e a ha]; exact h.2.1 a b x q ha hb, fun a b ha hb => by rw [e a ha]; exact h.2.2 a b ha hb⟩
theorem rTl_is (g f : Nat → Int32) : ∀ n a, lp (rTl g) n f a = if 1 ≤ a ∧ a ≤ n then g a else f a
  | 0, a => by rw [if_neg (by omega)]; rfl
  | n + 1, a => by
    show upd (lp (rTl g) n f) (n + 1) (g (n + 1)) a = _
    by_cases e : a = n + 1
    · rw [e, pk_us, if_pos (by omega)]
    · rw [pk_un e, rTl_is g f n a]
      by_cases q : 1 ≤ a ∧ a ≤ n
      · rw [if_pos q, if_pos (by omega)]
      · rw [if_neg q, if_neg (by omega)]
theorem cpy_is (f g : Nat → Int32) (n a : Nat) : va_cpy f g 0 0 n a = if a < n then f a else g a := by
  unfold va_cpy
  by_cases q : a < n
  · rw [if_pos q, if_pos (by omega), show 0 + (a - 0) = a from by omega]
  · rw [if_neg q, if_neg (by omega)]
/-- the labelling that was found is legal -/
theorem Lgl_of {f : Nat → Int32} {top : Int} (hb : lB c f) (hs : Sol (Cn c J k) c top (iv f)) : Lgl c J f := by
  refine ⟨hb, fun w hw h0 => ?_⟩
  have h1 := hs.2.2 _ _ _ (Or.inl ⟨w, hw, h0, Or.inl ⟨rfl, rfl, rfl⟩⟩)
  have h2 := hs.2.2 _ _ _ (Or.inl ⟨w, hw, h0, Or.inr ⟨rfl, rfl, rfl⟩⟩)
  omega
theorem JS_ini (R : Rel c X L J) {f lab : Nat → Int32} (he : ∀ a, 1 ≤ a → a ≤ c → lab a = f a) : kJS c J f ((X 13, L 14), va_cpy lab (X 23) 0 0 (c + 1)) (J 5, J 4) (lp (rTl f) c (J 11)) := by
  have hlf : ∀ g, 1 ≤ g → g ≤ c → lp (rTl f) c (J 11) g = f g := fun g g1 g2 => by rw [rTl_is, if_pos ⟨g1, g2⟩]
  refine ⟨fun w hw => ?_, fun g g1 g2 => ?_, fun g g1 g2 => ?_, fun w hw h0 => ?_, fun w hw h0 => R.mn0 w hw h0⟩
  · obtain ⟨m, hm, em⟩ := R.mnb w hw
    refine ⟨m, by omega, ?_, em, fun j hj => ?_⟩
    · show X 13 w = nI m
      rw [R.mn w hw, em]
    · exact R.vl w j hw (by rw [em, nI_clamp (by omega)]; exact hj)
  · show va_cpy lab (X 23) 0 0 (c + 1) g = _
    rw [cpy_is, if_pos (by omega), hlf g g1 g2]
    exact he g g1 g2
  · rw [hlf g g1 g2]; omega
  · have e : ∀ g, g ≤ c → iv (lp (rTl f) c (J 11)) g = iv f g := fun g hg => by
      by_cases e0 : g = 0
      · rw [e0, iv_0, iv_0]
      · rw [iv_p (by omega), iv_p (by omega), hlf g (by omega) hg]
    obtain ⟨s1, s2, _⟩ := wir R hw h0
    rw [e _ s1, e _ s2]
    show (J 4 w).toInt = _
    omega
theorem tot_ini {f lf : Nat → Int32} (hb : lB c f) (he : ∀ a, 1 ≤ a → a ≤ c → lf a = f a) (hc : c ≤ 12) : tot c lf < (73 : Nat) := by
  have := sI_hi (f := aI lf) c (fun a a1 a2 => by
    have h1 := hb a a1 a2
    rw [← he a a1 a2] at h1
    unfold aI
    rw [iv_p a1]
    split <;> omega)
  unfold tot
  omega
/-- what is committed: class and reference stay tied -/
theorem Rel_com (R : Rel c X L J) {f lab : Nat → Int32} (he : ∀ a, 1 ≤ a → a ≤ c → lab a = f a) (hl : Lgl c J f) {x : mS} {s : tS} {lf : Nat → Int32} (h : kJS c J f x s lf) (h0 : ∀ g, 1 ≤ g → g ≤ c → lf g = 0) {I2 J2 : Nat → Nat → Int32} {L2 : Nat → Nat → Int64} (i9 : I2 9 = va_cpy lab (X 9) 0 0 (c + 1)) (i10 : I2 10 = X 10) (i11 : I2 11 = X 11) (i12 : I2 12 = X 12) (i13 : I2 13 = x.1.1) (i65 : I2 65 = x.1.1) (l14 : L2 14 = x.1.2) (l66 : L2 66 = x.1.2) (j1 : J2 1 = J 1) (j2 : J2 2 = J 2) (j3 : J2 3 = J 3) (j4 : J2 4 = s.2) (j5 : J2 5 = s.1) (j6 : J2 6 = s.1) (j9 : J2 9 = lp (rTl f) c (J 9)) : Rel c I2 L2 J2 := by
  have hc := R.hc
  have hM : ∀ w, w < 27 → ∃ m, m ≤ 20 ∧ s.2 w = nI m ∧ x.1.1 w = nI m ∧ wR2 w m (x.1.2 w) s.1 := fun w hw => by
    obtain ⟨m, hm, e1, e2, e3⟩ := h.1 w hw
    refine ⟨m, ?_, e2, e1, e3⟩
    by_cases q : J 3 w = 0
    · have := h.2.2.2.2 w hw q
      rw [e2] at this
      have := (nI_eq (b := 0) (by omega) (by decide)).mp this
      omega
    · obtain ⟨s1, s2, _⟩ := wir R hw q
      have z : ∀ g, g ≤ c → iv lf g = 0 := fun g hg => by
        by_cases e0 : g = 0
        · rw [e0, iv_0]
        · rw [iv_p (by omega), h0 g (by omega) hg]; rfl
      have h1 := h.2.2.2.1 w hw q
      have h2 := hl.2 w hw q
      rw [z _ s1, z _ s2, e2, nI_toInt (by omega)] at h1
      omega
  unfold Rel
  rw [i9, i10, i11, i12, i13, i65, l14, l66, j1, j2, j3, j4, j5, j6, j9]
  have hv : ∀ w k, w < 27 → k < (s.2 w).toNatClampNeg → bRd (x.1.2 w) (nI k) = s.1 (40 * w + k) ∧ ∃ n, n ≤ 2 ∧ s.1 (40 * w + k) = nI n := fun w k hw hk => by
    obtain ⟨m, hm, e2, e1, e3⟩ := hM w hw
    rw [e2, nI_clamp (by omega)] at hk
    exact e3 k hk
  have hm : ∀ w, w < 27 → x.1.1 w = s.2 w := fun w hw => by
    obtain ⟨m, hm, e2, e1, e3⟩ := hM w hw
    rw [e1, e2]
  refine ⟨hc, R.kd, R.kdb, R.ds, R.dsb, R.fr, R.frb, R.frs, R.frp, hm, fun w hw => ?_, h.2.2.2.2, hm, hv, hv, fun g g1 g2 => ?_⟩
  · obtain ⟨m, hm, e2, _⟩ := hM w hw
    exact ⟨m, hm, e2⟩
  · rw [cpy_is, rTl_is]
    by_cases q : g < c + 1
    · rw [if_pos q, if_pos (by omega)]; exact he g g1 (by omega)
    · rw [if_neg q, if_neg (by omega)]; exact R.told g g1 g2
/-- moveUpTo against find and follow -/
theorem mv_2 (R : Rel c X L J) (hs : sndB c X = true) (hW : tW c J k) (hM : MB c (Cn c J k) X) {tp : Int32} (htp : tp = 6 ∨ tp = 0) : ∃ q, rFind c J k tp = some q ∧ (q.2 = true ↔ ∃ g, Sol (Cn c J k) c tp.toInt g) ∧ (q.2 = false → aMv c tp X L = (false, upI X 21 (lSol c tp X).1, L)) ∧ (q.2 = true → ∃ z, rFol c (upI J 10 q.1) = some z ∧ z.2 = (aMv c tp X L).1 ∧ (tp = 0 → z.2 = true) ∧ (z.2 = true → Rel c (aMv c tp X L).2.1 (aMv c tp X L).2.2 (rCom c (fI (upI J 10 q.1) z.1))) ∧ (z.2 = false → aMv c tp X L = (false, vI2 c tp X L, vL2 c tp X L))) := by
  have hc := R.hc
  obtain ⟨q, e1, e2, e3, e4⟩ := find_agrX R hW hM htp
  refine ⟨q, e1, e4, fun hq => ?_, fun hq => ?_⟩
  · unfold aMv
    rw [← e2, hq, if_neg Bool.false_ne_true]
  · obtain ⟨f1, f2, f3, f4⟩ := e3 hq
    have R2 : Rel c X L (upI J 10 q.1) := Rel_ext R (fun _ _ => rfl) (fun j h => upI_ne _ _ (by omega))
    have hl : Lgl c (upI J 10 q.1) q.1 := by
      have := Lgl_of f3 f4
      unfold Lgl cSr at this ⊢
      rw [upI_ne J q.1 (show 3 ≠ 10 by decide), upI_ne J q.1 (show 4 ≠ 10 by decide)]
      exact this
    have hj := JS_ini R2 f1
    have e5 : upI J 10 q.1 5 = J 5 := rfl
    have e6 : upI J 10 q.1 4 = J 4 := rfl
    have e7 : upI J 10 q.1 11 = J 11 := rfl
    have e8 : upI J 10 q.1 10 = q.1 := rfl
    have ht : tot c (lp (rTl q.1) c (upI J 10 q.1 11)) < (73 : Nat) := tot_ini f3 (fun a a1 a2 => by rw [rTl_is, if_pos ⟨a1, a2⟩]) hc
    obtain ⟨z, z1, z2, z3, z4⟩ := fo_2 R2 hs hl 73 200 _ _ _ hj ht (by decide)
    have zf : rFol c (upI J 10 q.1) = some z := by
      unfold rFol
      rw [e8]
      exact z1
    have vf : vF c tp X L = mRun (X 10) (X 12) c 73 ((X 13, L 14), va_cpy (lSol c tp X).1 (X 23) 0 0 (c + 1)) := rfl
    refine ⟨z, zf, ?_, fun h0 => z3 (fun g g1 g2 => ?_), fun hz => ?_, fun hz => ?_⟩
    · unfold aMv
      rw [← e2, hq, if_pos rfl, vf, z2]
      cases hm : (mRun (X 10) (X 12) c 73 ((X 13, L 14), va_cpy (lSol c tp X).1 (X 23) 0 0 (c + 1))).2 with
      | true => rw [if_pos rfl]
      | false => rw [if_neg Bool.false_ne_true]
    · have := (f4.2.1 g g1 g2).2
      rw [iv_p g1, h0] at this
      exact this
    · obtain ⟨w1, w2⟩ := z4 hz
      rw [z2] at hz
      have ea : aMv c tp X L = (true, begI (vI3 c (vI2 c tp X L)), begL (vL3 (vL2 c tp X L))) := by
        unfold aMv
        rw [← e2, hq, if_pos rfl, vf, if_pos hz]
      rw [ea]
      show Rel c (begI (vI3 c (vI2 c tp X L))) (begL (vL3 (vL2 c tp X L))) (rCom c (fI (upI J 10 q.1) z.1))
      have ev : vI2 c tp X L = mI (vI1 c tp X) (mRun (X 10) (X 12) c 73 ((X 13, L 14), va_cpy (lSol c tp X).1 (X 23) 0 0 (c + 1))).1 := by unfold vI2; rw [vf]
      have ew : vL2 c tp X L = mL (vL1 L) (mRun (X 10) (X 12) c 73 ((X 13, L 14), va_cpy (lSol c tp X).1 (X 23) 0 0 (c + 1))).1 := by unfold vL2; rw [vf]
      rw [ev, ew]
      generalize (mRun (X 10) (X 12) c 73 ((X 13, L 14), va_cpy (lSol c tp X).1 (X 23) 0 0 (c + 1))).1 = x at w1
      refine Rel_com R2 f1 hl w1 w2 (I2 := begI (vI3 c (mI (vI1 c tp X) x))) (L2 := begL (vL3 (mL (vL1 L) x))) (J2 := rCom c (fI (upI J 10 q.1) z.1)) ?_ ?_ ?_ ?_ ?_ ?_ ?_ ?_ ?_ ?_ ?_ ?_ ?_ ?_ ?_ <;> rfl
    · rw [z2] at hz
      unfold aMv
      rw [← e2, hq, if_pos rfl, vf, hz, if_neg Bool.false_ne_true]
theorem rI_row {j : Nat} (h : j < 52) (h2 : 52 ≤ j ∨ j < 26) (h3 : j ≠ 17) (h4 : j ≠ 18) : rI c k I j = I j := by
  unfold rI
  rw [lSet_low h]
  unfold aI2
  rw [hMeas_low (by omega)]
  exact oI_ne h3 h4
theorem retime_agr (R : Rel c I L J) (k : Int32) : ∃ q, rRet c J k = some q ∧ gOn c (aRet c fil I L k).2 q.2.2 ∧ AgI [(3, 1), (0, 2)] (aRet c fil I L k).1 q.2.1 q.1 := by
  have hc := R.hc
  unfold aRet rRet
  rw [← snd_eq R]
  cases hs : sndB c I with
  | false =>
    rw [if_neg Bool.false_ne_true, if_neg Bool.false_ne_true]
    exact ⟨_, rfl, sndH_on R, by show ((3 : Nat), (1 : Int32)) ∈ _; decide⟩
  | true =>
    rw [if_pos rfl, if_pos rfl]
    by_cases k0 : k < 0
    · rw [if_pos k0, if_pos k0]
      exact ⟨_, rfl, ⟨nI c, _, L, rfl, Rel_snd R⟩, by show ((0 : Nat), (2 : Int32)) ∈ _; decide⟩
    rw [if_neg k0, if_neg k0]
    by_cases k6 : ¬ k ≤ 600
    · rw [if_pos k6, if_pos k6]
      exact ⟨_, rfl, ⟨nI c, _, L, rfl, Rel_snd R⟩, by show ((0 : Nat), (2 : Int32)) ∈ _; decide⟩
    rw [if_neg k6, if_neg k6]
    have hk : 0 ≤ k := by rw [Int32.le_iff_toInt_le]; rw [Int32.lt_iff_toInt_lt] at k0; omega
    have R0 := Rel_meas R
    have E := Ent_meas R hs
    have hM : MB c (Cn c (rK c J) k) (rI c k I) := lSet_is R0 E hk
    have hW : tW c (rK c J) k := tW_of E
    have RX : Rel c (rI c k I) L (rK c J) := by
      have := Rel_set R0 (k := k) (f := lSet c k (aI2 c I) 21)
      rw [upI_own] at this
      exact this
    have RI0 : Rel c I L (rK c J) := Rel_ext R (fun _ _ => rfl) (fun j h => rK_ne (by omega) (by omega))
    have hsX : sndB c (rI c k I) = true := by rw [snd_same RX RI0]; exact hs
    generalize rI c k I = X at hM RX hsX ⊢
    generalize rK c J = K at hM hW RX
    obtain ⟨q, q1, q2, q3, q4⟩ := mv_2 RX hsX hW hM (tp := 6) (Or.inl rfl)
    unfold rRt1
    rw [q1]
    show ∃ y, (if q.2 = true then (match rFol c (upI K 10 q.1) with | none => none | some z => if z.2 = true then some (2, 0, rCom c (fI (upI K 10 q.1) z.1)) else rRt2 c (fI (upI K 10 q.1) z.1) k) else some (0, 0, upI K 10 q.1)) = some y ∧ _
    cases hq : q.2 with
    | false =>
      rw [if_neg Bool.false_ne_true, q3 hq, if_neg Bool.false_ne_true]
      have R2 : Rel c (upI X 21 (lSol c 6 X).1) L K := Rel_ext RX (fun j h => upI_ne _ _ (by omega)) (fun _ _ => rfl)
      have hs2 : sndB c (upI X 21 (lSol c 6 X).1) = true := by rw [snd_same R2 RX]; exact hsX
      obtain ⟨p, p1, p2, p3, _⟩ := mv_2 R2 hs2 hW (MB_ext hM (fun a _ => upI_ne _ _ (by omega))) (tp := 0) (Or.inr rfl)
      have hp : p.2 = false := by
        cases hp : p.2 with
        | false => rfl
        | true =>
          obtain ⟨g, hg⟩ := p2.mp hp
          have : q.2 = true := q2.mpr ⟨g, hg.1, fun a a1 a2 => by
            have := hg.2.1 a a1 a2
            rw [show (0 : Int32).toInt = 0 from rfl] at this
            rw [show (6 : Int32).toInt = 6 from rfl]
            omega, hg.2.2⟩
          rw [hq] at this
          exact Bool.noConfusion this
      rw [p3 hp, if_neg Bool.false_ne_true]
      exact ⟨_, rfl, ⟨nI c, _, L, rfl, Rel_ext R2 (fun j h => upI_ne _ _ (by omega)) (fun j h => upI_ne _ _ (by omega))⟩, rfl, rfl⟩
    | true =>
      rw [if_pos rfl]
      obtain ⟨z, z1, z2, _, z3, z4⟩ := q4 hq
      rw [z1]
      show ∃ y, (if z.2 = true then some (2, 0, rCom c (fI (upI K 10 q.1) z.1)) else rRt2 c (fI (upI K 10 q.1) z.1) k) = some y ∧ _
      rw [← z2]
      cases hz : z.2 with
      | true =>
        rw [if_pos rfl, if_pos rfl]
        exact ⟨_, rfl, ⟨nI c, _, _, rfl, z3 hz⟩, rfl, rfl⟩
      | false =>
        rw [if_neg Bool.false_ne_true, if_neg Bool.false_ne_true, z4 hz]
        have fr : ∀ j, j ≠ 10 → j ≠ 11 → j ≠ 7 → j ≠ 8 → fI (upI K 10 q.1) z.1 j = K j := fun j a b d e => by
          unfold fI tI
          rw [upI_ne _ _ e, upI_ne _ _ d, upI_ne _ _ b, upI_ne _ _ a]
        have vr : ∀ j, j ≠ 21 → j ≠ 15 → j ≠ 23 → vI2 c 6 X L j = X j := fun j a b d => by
          unfold vI2 mI vI1
          rw [upI_ne _ _ b, upI_ne _ _ d, upI_ne _ _ b, upI_ne _ _ a]
        have lr : ∀ j, j ≠ 16 → vL2 c 6 X L j = L j := fun j a => by
          unfold vL2 mL vL1
          rw [upL_ne _ _ a, upL_ne _ _ a]
        have R2 : Rel c (vI2 c 6 X L) (vL2 c 6 X L) (fI (upI K 10 q.1) z.1) := Rel_ext3 RX (fun j h => vr j (by omega) (by omega) (by omega)) (fun j h => lr j (by omega)) (fun j h => fr j (by omega) (by omega) (by omega) (by omega))
        have RX2 : Rel c X L (fI (upI K 10 q.1) z.1) := Rel_ext RX (fun _ _ => rfl) (fun j h => fr j (by omega) (by omega) (by omega) (by omega))
        have hs2 : sndB c (vI2 c 6 X L) = true := by rw [snd_same R2 RX2]; exact hsX
        have hW2 : tW c (fI (upI K 10 q.1) z.1) k := tW_ext (fr 12 (by decide) (by decide) (by decide) (by decide)) (fr 2 (by decide) (by decide) (by decide) (by decide)) hW
        have hM2 : MB c (Cn c (fI (upI K 10 q.1) z.1) k) (vI2 c 6 X L) := by
          rw [Cn_ext4 (fr 3 (by decide) (by decide) (by decide) (by decide)) (fr 4 (by decide) (by decide) (by decide) (by decide)) (fr 12 (by decide) (by decide) (by decide) (by decide)) (fr 2 (by decide) (by decide) (by decide) (by decide))]
          exact MB_ext hM (fun a _ => vr _ (by omega) (by omega) (by omega))
        dsimp only
        generalize vI2 c 6 X L = X2 at R2 hs2 hM2 ⊢
        generalize vL2 c 6 X L = L2 at R2 ⊢
        generalize fI (upI K 10 q.1) z.1 = K2 at R2 hW2 hM2 ⊢
        obtain ⟨p, p1, p2, p3, p4⟩ := mv_2 R2 hs2 hW2 hM2 (tp := 0) (Or.inr rfl)
        unfold rRt2
        rw [p1]
        show ∃ y : rR3, (if p.2 = true then (match rFol c (upI K2 10 p.1) with | none => none | some z => some ((if z.2 = true then (1 : Int32) else 0), (0 : Int32), rCom c (fI (upI K2 10 p.1) z.1))) else some (0, 0, upI K2 10 p.1)) = some y ∧ _
        cases hp : p.2 with
        | false =>
          rw [if_neg Bool.false_ne_true, p3 hp, if_neg Bool.false_ne_true]
          exact ⟨_, rfl, ⟨nI c, _, L2, rfl, Rel_ext R2 (fun j h => upI_ne _ _ (by omega)) (fun j h => upI_ne _ _ (by omega))⟩, rfl, rfl⟩
        | true =>
          rw [if_pos rfl]
          obtain ⟨y, y1, y2, y3, y4, _⟩ := p4 hp
          rw [y1]
          have hy := y3 rfl
          rw [hy] at y2
          rw [if_pos y2.symm]
          refine ⟨(1, 0, rCom c (fI (upI K2 10 p.1) y.1)), ?_, ⟨nI c, _, _, rfl, y4 hy⟩, rfl, rfl⟩
          show some ((if y.2 = true then (1 : Int32) else 0), (0 : Int32), rCom c (fI (upI K2 10 p.1) y.1)) = _
          rw [hy, if_pos rfl]
end RTM
