/-! The class's least and longest are those of the best walks. -/
theorem bP_mono {dv M M2 : Int} (h : M ≤ M2) (h0 : 0 ≤ M) {e : Int32 × Int32} (he : bP dv M e) : bP dv M2 e := by
  rcases he with h1 | h1
  · exact Or.inl h1
  · exact Or.inr ⟨h1.1, by omega, h1.2.2.1, by omega⟩
theorem c3_opt {dm dv : Nat} (hdm : dm ≤ 50) (hdv : dv ≤ 50) {M : Int} (hM0 : 0 ≤ M) (hM : 100 * M < 100000000) {e a b : Int32 × Int32} (he : bP dv M e) (ha : bP dm M a) (hb : bP dv M b) : dP dv (c3 (nI dm) e a b) = oMn (dP dv e) (oAd (dP dm a) (dP dv b)) ∧ bP dv (2 * M) (c3 (nI dm) e a b) := by
  have he2 := bP_mono (show M ≤ 2 * M by omega) hM0 he
  have hnone : ∀ y z : Option Int, y = none ∨ z = none → oAd y z = none := fun y z h => by
    cases y <;> cases z <;> first | rfl | (rcases h with h | h <;> cases h)
  have hmn : ∀ y : Option Int, oMn y none = y := fun y => by cases y <;> rfl
  unfold c3
  by_cases qa : a.1 = -1
  · rw [if_pos qa, hnone (dP dm a) (dP dv b) (Or.inl (if_pos qa)), hmn]
    exact ⟨rfl, he2⟩
  · rw [if_neg qa]
    by_cases qb : b.1 = -1
    · rw [if_pos qb, hnone (dP dm a) (dP dv b) (Or.inr (if_pos qb)), hmn]
      exact ⟨rfl, he2⟩
    · rw [if_neg qb]
      obtain ⟨a1, a2, a3, a4⟩ := ha.resolve_left qa
      obtain ⟨b1, b2, b3, b4⟩ := hb.resolve_left qb
      have t1 : (a.1 + b.1).toInt = a.1.toInt + b.1.toInt := by
        rw [Int32.toInt_add, Int.bmod_eq_of_le] <;> omega
      have t2 : (a.2 + b.2 - nI dm).toInt = a.2.toInt + b.2.toInt - dm := by
        rw [Int32.toInt_sub, Int32.toInt_add, nI_toInt (by omega), Int.bmod_eq_of_le (n := a.2.toInt + b.2.toInt) (by omega) (by omega), Int.bmod_eq_of_le] <;> omega
      have hn : ¬ a.1 + b.1 = -1 := m1_toInt (by rw [t1]; omega)
      have ho : bP dv (2 * M) (a.1 + b.1, a.2 + b.2 - nI dm) := by
        refine Or.inr ?_
        show 0 ≤ (a.1 + b.1).toInt ∧ (a.1 + b.1).toInt ≤ 2 * M ∧ 0 ≤ (a.2 + b.2 - nI dm).toInt - dv ∧ (a.2 + b.2 - nI dm).toInt - dv ≤ 50 * (2 * M)
        rw [t1, t2]
        omega
      have hv : dP dv (a.1 + b.1, a.2 + b.2 - nI dm) = oAd (dP dm a) (dP dv b) := by
        unfold dP
        rw [if_neg (show ¬ ((a.1 + b.1, a.2 + b.2 - nI dm) : Int32 × Int32).1 = -1 from hn), if_neg qa, if_neg qb]
        show some (100000000 * (a.1 + b.1).toInt - ((a.2 + b.2 - nI dm).toInt - dv)) = some ((100000000 * a.1.toInt - (a.2.toInt - dm)) + (100000000 * b.1.toInt - (b.2.toInt - dv)))
        refine congrArg some ?_
        rw [t1, t2]
        omega
      rw [← hv]
      exact o2_opt (show 50 * (2 * M) < 100000000 by omega) he2 ho hn
theorem dP_0 {dv : Nat} (hdv : dv ≤ 50) {M : Int} (hM : 100 * M < 100000000) {e : Int32 × Int32} (h : bP dv M e) (h0 : dP dv e = some 0) : e = (0, nI dv) := by
  unfold dP at h0
  split at h0
  · cases h0
  · rename_i q
    obtain ⟨h1, h2, h3, h4⟩ := h.resolve_left q
    have h5 : 100000000 * e.1.toInt - (e.2.toInt - dv) = 0 := Option.some.inj h0
    have e1 : e.1.toInt = 0 := by omega
    have e2 : e.2.toInt = dv := by omega
    have f1 : e.1 = 0 := Int32.toInt_inj.mp e1
    have f2 : e.2 = nI dv := Int32.toInt_inj.mp (by rw [nI_toInt (by omega)]; exact e2)
    rw [← f1, ← f2]
section CLQ
variable {c : Nat} {I : Nat → Nat → Int32} {L : Nat → Nat → Int64} {J : Nat → Nat → Int32}
def D0k (c : Nat) (I J : Nat → Nat → Int32) (u v : Nat) : Option Int := if (1 ≤ u ∧ u ≤ c) ∧ (1 ≤ v ∧ v ≤ c) then dP (eD J v) (en (hM2 c I) u v) else none
theorem D0k_in {u v : Nat} (hu : u < c) (hv : v < c) : D0k c I J (u + 1) (v + 1) = dP (eD J (v + 1)) (en (hM2 c I) (u + 1) (v + 1)) := if_pos ⟨⟨by omega, by omega⟩, by omega, by omega⟩
theorem D0k_0 (R : Rel c I L J) (hs : sndB c I = true) : ∀ u, inV c u → D0k c I J u u = some 0 := fun u hu => by
  have hc := R.hc
  obtain ⟨w, rfl⟩ : ∃ w, u = w + 1 := ⟨u - 1, by have := hu.1; omega⟩
  have hw : w < c := by have := hu.2; omega
  rw [D0k_in hw hw, (k0_is R hs).1.1 w hw]
  unfold dP
  rw [if_neg (show ¬ ((0 : Int32), J 2 (w + 1)).1 = -1 from (by decide : ¬ (0 : Int32) = -1))]
  show some (100000000 * (0 : Int32).toInt - ((J 2 (w + 1)).toInt - eD J (w + 1))) = some 0
  rw [(eD_is R (g := w + 1) (by omega)).1, nI_toInt (by have := (eD_is R (g := w + 1) (by omega)).2; omega)]
  refine congrArg some ?_
  have : (0 : Int32).toInt = 0 := rfl
  rw [this]
  omega
theorem D0k_A (R : Rel c I L J) (hs : sndB c I = true) : fwA (eS J) gbf (eR J) (eD J) 100000000 (D0k c I J) := by
  intro u v x e
  by_cases h : (1 ≤ u ∧ u ≤ c) ∧ (1 ≤ v ∧ v ≤ c)
  · obtain ⟨u, rfl⟩ : ∃ w, u = w + 1 := ⟨u - 1, by omega⟩
    obtain ⟨v, rfl⟩ : ∃ w, v = w + 1 := ⟨v - 1, by omega⟩
    by_cases e2 : u = v
    · subst e2
      rw [D0k_0 R hs (u + 1) h.1] at e
      cases e
      exact ⟨[], rfl, rfl⟩
    · rw [D0k_in (by omega) (by omega)] at e
      rcases (k0_is R hs).1.2 u v (by omega) (by omega) e2 with h2 | ⟨i, hi, e3, e4, e5⟩
      · unfold dP at e
        rw [if_pos h2] at e
        cases e
      · rw [e5, ← e3, ← e4, (off_val R hi (by omega)).1] at e
        cases e
        exact ⟨[i], ⟨⟨hi, e3, by omega⟩, e4⟩, rfl⟩
  · unfold D0k at e
    rw [if_neg h] at e
    cases e
theorem pw_bnd2 : ∀ n, n < 13 → 100 * (20 * 2 ^ n : Int) < 100000000 := by decide
theorem kStage (R : Rel c I L J) (hs : sndB c I = true) : ∀ n, n ≤ c → lp (fun m G => hM3 c (m + 1) G) n (hM2 c I) 11 = I 11 ∧ ∀ u v, u < c → v < c → dP (eD J (v + 1)) (en (lp (fun m G => hM3 c (m + 1) G) n (hM2 c I)) (u + 1) (v + 1)) = fwR (D0k c I J) n (u + 1) (v + 1) ∧ bP (eD J (v + 1)) (20 * 2 ^ n) (en (lp (fun m G => hM3 c (m + 1) G) n (hM2 c I)) (u + 1) (v + 1)) := by
  have hc := R.hc
  obtain ⟨p, hp⟩ := pot_is R hs
  have hinv := fwR_inv (c := c) hp (show (600 : Int) ≤ 100000000 by decide) (D0k_A R hs) (D0k_0 R hs)
  intro n
  induction n with
  | zero =>
    intro _
    rw [lp_zero]
    refine ⟨hM2_low (by decide), fun u v hu hv => ⟨?_, ?_⟩⟩
    · show _ = D0k c I J (u + 1) (v + 1)
      exact (D0k_in hu hv).symm
    · rw [show (20 * 2 ^ 0 : Int) = 20 from rfl]
      exact k0_bnd R (k0_is R hs).1 hu hv
  | succ n ih =>
    intro hn
    obtain ⟨i11, ih⟩ := ih (by omega)
    show hM3 c (n + 1) (lp (fun m G => hM3 c (m + 1) G) n (hM2 c I)) 11 = I 11 ∧ ∀ u v, u < c → v < c → dP (eD J (v + 1)) (en (hM3 c (n + 1) (lp (fun m G => hM3 c (m + 1) G) n (hM2 c I))) (u + 1) (v + 1)) = fwS (n + 1) (fwR (D0k c I J) n) (u + 1) (v + 1) ∧ bP (eD J (v + 1)) (20 * 2 ^ (n + 1)) (en (hM3 c (n + 1) (lp (fun m G => hM3 c (m + 1) G) n (hM2 c I))) (u + 1) (v + 1))
    generalize lp (fun m G => hM3 c (m + 1) G) n (hM2 c I) = G at i11 ih ⊢
    have hM : (0 : Int) ≤ 20 * 2 ^ n := Int.mul_nonneg (by decide) (Int.pow_nonneg (by decide))
    have hM2 := pw_bnd2 n (by omega)
    obtain ⟨m1, m2⟩ := ih n n (by omega) (by omega)
    have dn := eD_is R (g := n + 1) (by omega)
    have e11 : G 11 (n + 1) = nI (eD J (n + 1)) := by rw [i11, R.ds _ (by omega)]; exact dn.1
    have hz : en G (n + 1) (n + 1) = (0, G 11 (n + 1)) := by
      rw [e11]
      refine dP_0 dn.2 hM2 m2 ?_
      rw [m1]
      exact (hinv n (by omega)).2.1 (n + 1) ⟨by omega, hn⟩
    obtain ⟨k1, k2⟩ := hM3_is hc (show n < c by omega) hz
    refine ⟨k1.trans i11, fun u v hu hv => ?_⟩
    rw [k2 u v hu hv, e11]
    obtain ⟨x1, x2⟩ := ih u v hu hv
    obtain ⟨a1, a2⟩ := ih u n hu (by omega)
    obtain ⟨b1, b2⟩ := ih n v (by omega) hv
    obtain ⟨g1, g2⟩ := c3_opt dn.2 (eD_is R (g := v + 1) (by omega)).2 hM hM2 x2 a2 b2
    refine ⟨?_, ?_⟩
    · rw [g1, x1, a1, b1]
      rfl
    · rw [show (20 * 2 ^ (n + 1) : Int) = 2 * (20 * 2 ^ n) from by rw [Int.pow_succ]; omega]
      exact g2
/-- the class's least and longest -/
theorem cls_opt (R : Rel c I L J) (hs : sndB c I = true) {u v : Nat} (hu : u < c) (hv : v < c) : (∀ l, wlk (eS J) gbf l (u + 1) (v + 1) → oLe (dP (eD J (v + 1)) (en (hMeas c I) (u + 1) (v + 1))) (some (wV 100000000 (eR J) (eS J) (eD J) l))) ∧ (∀ x, dP (eD J (v + 1)) (en (hMeas c I) (u + 1) (v + 1)) = some x → ∃ l, wlk (eS J) gbf l (u + 1) (v + 1) ∧ x = wV 100000000 (eR J) (eS J) (eD J) l) ∧ bP (eD J (v + 1)) 81920 (en (hMeas c I) (u + 1) (v + 1)) := by
  have hc := R.hc
  obtain ⟨p, hp⟩ := pot_is R hs
  obtain ⟨e, hb⟩ := (kStage R hs c (Nat.le_refl _)).2 u v hu hv
  have e : dP (eD J (v + 1)) (en (hMeas c I) (u + 1) (v + 1)) = fwR (D0k c I J) c (u + 1) (v + 1) := e
  have hB : ∀ n, n ≤ 12 → (20 * 2 ^ n : Int) ≤ 81920 := by decide
  have hinv := fwR_inv (c := c) hp (show (600 : Int) ≤ 100000000 by decide) (D0k_A R hs) (D0k_0 R hs) c (Nat.le_refl _)
  rw [e]
  refine ⟨fun l hl => ?_, fun x hx => hinv.1 _ _ x hx, bP_mono (hB c hc) (Int.mul_nonneg (by decide) (Int.pow_nonneg (by decide))) hb⟩
  refine fwR_opt hp (show (600 : Int) ≤ 100000000 by decide) (D0k_A R hs) (D0k_0 R hs) (fun i hi => (eS_is R (by omega)).1) (fun i hi h => eK_in R hi h) ?_ l _ _ ⟨by omega, by omega⟩ hl
  intro i hi h1
  have hk := eK_in R hi h1
  have hsc := (eS_is R (i := i) (by omega)).1
  by_cases q : eS J i = gbf i
  · rw [← q, D0k_0 R hs _ ⟨h1, hsc⟩]
    intro y hy
    cases hy
    have hw : wlk (eS J) gbf [i] (eS J i) (eS J i) := ⟨⟨hi, rfl, h1⟩, q.symm⟩
    exact ⟨0, rfl, wlk_closed hp (show (600 : Int) ≤ 100000000 by decide) hw⟩
  · have hb2 := (k0_is R hs).2 i (by omega) hi h1 q
    unfold D0k
    rw [if_pos ⟨⟨h1, hsc⟩, hk⟩]
    exact hb2
end CLQ
