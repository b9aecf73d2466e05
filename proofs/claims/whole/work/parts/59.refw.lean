/-! The reference's costs, stage by stage. -/
def mix (c u v : Nat) (h : Nat → Nat → Int32) (f0 f : Nat → Int32) : Prop := ∀ a b, a < c → b < c → f (13 * (a + 1) + (b + 1)) = if a < u ∨ (a = u ∧ b < v) then h a b else f0 (13 * (a + 1) + (b + 1))
/-- two loops that set each entry once -/
theorem dbl {c : Nat} {st : Nat → Nat → (Nat → Int32) → Nat → Int32} {h : Nat → Nat → Int32} {f0 : Nat → Int32} (hst : ∀ u v f, u < c → v < c → mix c u v h f0 f → ∀ a b, a < c → b < c → st u v f (13 * (a + 1) + (b + 1)) = if a = u ∧ b = v then h u v else f (13 * (a + 1) + (b + 1))) : ∀ a b, a < c → b < c → lp (fun u f => lp (st u) c f) c f0 (13 * (a + 1) + (b + 1)) = h a b := by
  have inner : ∀ u f, u < c → mix c u 0 h f0 f → ∀ v, v ≤ c → mix c u v h f0 (lp (st u) v f) := by
    intro u f hu hf v
    induction v with
    | zero => intro _; exact hf
    | succ v ih =>
      intro hv a b ha hb
      have hm := ih (by omega)
      show st u v (lp (st u) v f) (13 * (a + 1) + (b + 1)) = _
      rw [hst u v _ hu (by omega) hm a b ha hb]
      by_cases e : a = u ∧ b = v
      · rw [if_pos e, if_pos (show a < u ∨ (a = u ∧ b < v + 1) by omega), e.1, e.2]
      · rw [if_neg e, hm a b ha hb]
        by_cases e2 : a < u ∨ (a = u ∧ b < v)
        · rw [if_pos e2, if_pos (show a < u ∨ (a = u ∧ b < v + 1) by omega)]
        · rw [if_neg e2, if_neg (show ¬ (a < u ∨ (a = u ∧ b < v + 1)) by omega)]
  have outer : ∀ u, u ≤ c → mix c u 0 h f0 (lp (fun u f => lp (st u) c f) u f0) := by
    intro u
    induction u with
    | zero => intro _ a b ha hb; rw [if_neg (show ¬ (a < 0 ∨ (a = 0 ∧ b < 0)) by omega)]; rfl
    | succ u ih =>
      intro hu a b ha hb
      have hm := inner u _ (by omega) (ih (by omega)) c (Nat.le_refl _)
      show lp (st u) c (lp (fun u f => lp (st u) c f) u f0) (13 * (a + 1) + (b + 1)) = _
      rw [hm a b ha hb]
      by_cases e2 : a < u ∨ (a = u ∧ b < c)
      · rw [if_pos e2, if_pos (show a < u + 1 ∨ (a = u + 1 ∧ b < 0) by omega)]
      · rw [if_neg e2, if_neg (show ¬ (a < u + 1 ∨ (a = u + 1 ∧ b < 0)) by omega)]
  intro a b ha hb
  rw [outer c (Nat.le_refl _) a b ha hb, if_pos (Or.inl ha)]
theorem ix_ne {a b u v : Nat} (hb : b < 12) (hv : v < 12) (h : ¬ (a = u ∧ b = v)) : 13 * (a + 1) + (b + 1) ≠ 13 * (u + 1) + (v + 1) := by omega
theorem rM1_is {c : Nat} (hc : c ≤ 12) (f : Nat → Int32) {a b : Nat} (ha : a < c) (hb : b < c) : rM1c c f (13 * (a + 1) + (b + 1)) = if a = b then 0 else 100000000 := by
  refine dbl (st := rM1) (h := fun a b => if a = b then 0 else 100000000) ?_ a b ha hb
  intro u v f hu hv _ a b ha hb
  unfold rM1
  by_cases e : a = u ∧ b = v
  · rw [if_pos e, e.1, e.2, pk_us]
  · rw [if_neg e, pk_un (ix_ne (by omega) (by omega) e)]
def g3 (x a b : Int32) : Int32 := if 100000000 ≤ a then x else if 100000000 ≤ b then x else if x ≤ a + b then x else a + b
theorem g3_l (x : Int32) : g3 x x 0 = x := by
  unfold g3
  split
  · rfl
  · split
    · rfl
    · rw [Int32.add_zero]
      split <;> rfl
theorem g3_r (x : Int32) : g3 x 0 x = x := by
  unfold g3
  split
  · rfl
  · split
    · rfl
    · rw [Int32.zero_add]
      split <;> rfl
/-- one stage of the reference -/
theorem rM3_is {c m : Nat} (hc : c ≤ 12) (hm : m < c) {f : Nat → Int32} (h0 : f (13 * (m + 1) + (m + 1)) = 0) {a b : Nat} (ha : a < c) (hb : b < c) : rM3m c m f (13 * (a + 1) + (b + 1)) = g3 (f (13 * (a + 1) + (b + 1))) (f (13 * (a + 1) + (m + 1))) (f (13 * (m + 1) + (b + 1))) := by
  refine dbl (st := rM3 m) (h := fun a b => g3 (f (13 * (a + 1) + (b + 1))) (f (13 * (a + 1) + (m + 1))) (f (13 * (m + 1) + (b + 1)))) ?_ a b ha hb
  intro u v g hu hv hg a b ha hb
  have e1 : g (13 * (u + 1) + (m + 1)) = f (13 * (u + 1) + (m + 1)) := by
    rw [hg u m hu hm]
    split
    · show g3 _ _ (f (13 * (m + 1) + (m + 1))) = _
      rw [h0, g3_l]
    · rfl
  have e2 : g (13 * (m + 1) + (v + 1)) = f (13 * (m + 1) + (v + 1)) := by
    rw [hg m v hm hv]
    split
    · show g3 _ (f (13 * (m + 1) + (m + 1))) _ = _
      rw [h0, g3_r]
    · rfl
  have e3 : g (13 * (u + 1) + (v + 1)) = f (13 * (u + 1) + (v + 1)) := by
    rw [hg u v hu hv, if_neg (by omega)]
  unfold rM3
  rw [e1, e2, e3]
  show _ = if a = u ∧ b = v then g3 (f (13 * (u + 1) + (v + 1))) (f (13 * (u + 1) + (m + 1))) (f (13 * (m + 1) + (v + 1))) else _
  unfold g3
  by_cases e : a = u ∧ b = v
  · rw [if_pos e, e.1, e.2]
    split
    · exact e3
    · split
      · exact e3
      · split
        · exact e3
        · exact pk_us
  · rw [if_neg e]
    split
    · rfl
    · split
      · rfl
      · split
        · rfl
        · exact pk_un (ix_ne (by omega) (by omega) e)
def dRo (x : Int32) : Option Int := if x = 100000000 then none else some x.toInt
def bnd (M : Int) (x : Int32) : Prop := x = 100000000 ∨ (-M ≤ x.toInt ∧ x.toInt ≤ M)
theorem g3_opt {M : Int} (hM : 0 ≤ M) (hM2 : 2 * M < 100000000) {x a b : Int32} (hx : bnd M x) (ha : bnd M a) (hb : bnd M b) : dRo (g3 x a b) = oMn (dRo x) (oAd (dRo a) (dRo b)) ∧ bnd (2 * M) (g3 x a b) := by
  have hF : (100000000 : Int32).toInt = 100000000 := rfl
  have hle : ∀ y, bnd M y → ((100000000 : Int32) ≤ y ↔ y = 100000000) := fun y hy => by
    constructor
    · intro h
      rcases hy with h2 | h2
      · exact h2
      · rw [Int32.le_iff_toInt_le, hF] at h; omega
    · intro h; rw [h]; decide
  have hx2 : bnd (2 * M) x := by
    rcases hx with h | h
    · exact Or.inl h
    · exact Or.inr ⟨by omega, by omega⟩
  have hnone : ∀ y z : Option Int, y = none ∨ z = none → oAd y z = none := fun y z h => by
    cases y <;> cases z <;> first | rfl | (rcases h with h | h <;> cases h)
  have hmn : ∀ y : Option Int, oMn y none = y := fun y => by cases y <;> rfl
  unfold g3
  by_cases qa : a = 100000000
  · rw [if_pos ((hle a ha).mpr qa), hnone (dRo a) (dRo b) (Or.inl (if_pos qa)), hmn]
    exact ⟨rfl, hx2⟩
  · rw [if_neg (fun h => qa ((hle a ha).mp h))]
    by_cases qb : b = 100000000
    · rw [if_pos ((hle b hb).mpr qb), hnone (dRo a) (dRo b) (Or.inr (if_pos qb)), hmn]
      exact ⟨rfl, hx2⟩
    · rw [if_neg (fun h => qb ((hle b hb).mp h))]
      have ha := ha.resolve_left qa
      have hb := hb.resolve_left qb
      have es : (a + b).toInt = a.toInt + b.toInt := by
        rw [Int32.toInt_add, Int.bmod_eq_of_le] <;> omega
      have hab : ¬ a + b = 100000000 := fun h => by
        have := congrArg Int32.toInt h
        rw [es, hF] at this
        omega
      have e1 : oAd (dRo a) (dRo b) = some (a + b).toInt := by
        unfold dRo
        rw [if_neg qa, if_neg qb, es]
        rfl
      rw [e1]
      have hab2 : bnd (2 * M) (a + b) := Or.inr ⟨by omega, by omega⟩
      have e2 : dRo (a + b) = some (a + b).toInt := if_neg hab
      by_cases qx : x = 100000000
      · have e3 : ¬ x ≤ a + b := fun h => by
          rw [qx, Int32.le_iff_toInt_le, hF, es] at h
          omega
        rw [if_neg e3, e2, show dRo x = none from if_pos qx]
        exact ⟨rfl, hab2⟩
      · have e3 : dRo x = some x.toInt := if_neg qx
        rw [e3]
        show _ = (if (a + b).toInt < x.toInt then some (a + b).toInt else some x.toInt) ∧ _
        by_cases q : x ≤ a + b
        · rw [if_pos q, e3, if_neg (by rw [Int32.le_iff_toInt_le] at q; omega)]
          exact ⟨rfl, hx2⟩
        · rw [if_neg q, e2, if_pos (by rw [Int32.le_iff_toInt_le] at q; omega)]
          exact ⟨rfl, hab2⟩
