/-! The reference's last costs are what the best walks are worth. -/
section RFP
variable {c : Nat} {I : Nat → Nat → Int32} {L : Nat → Nat → Int64} {J : Nat → Nat → Int32}
theorem pw_bnd : ∀ n, n < 12 → 2 * (20480 * 2 ^ n : Int) < 100000000 := by decide
theorem dRo_0 {x : Int32} (h : dRo x = some 0) : x = 0 := by
  unfold dRo at h
  split at h
  · cases h
  · have h2 : x.toInt = 0 := Option.some.inj h
    exact Int32.toInt_inj.mp h2
theorem rStage (R : Rel c I L J) (hs : sndB c I = true) : ∀ n, n ≤ c → ∀ u v, u < c → v < c → dRo (lp (rM3m c) n (rM2c c J) (13 * (u + 1) + (v + 1))) = fwR (D0r c J) n (u + 1) (v + 1) ∧ bnd (20480 * 2 ^ n) (lp (rM3m c) n (rM2c c J) (13 * (u + 1) + (v + 1))) := by
  have hc := R.hc
  obtain ⟨p, hp⟩ := pot_is R hs
  have h0 : ∀ u, inV c u → D0r c J u u = some 0 := fun u hu => by
    obtain ⟨w, rfl⟩ : ∃ w, u = w + 1 := ⟨u - 1, by have := hu.1; omega⟩
    have hw : w < c := by have := hu.2; omega
    rw [D0r_in hw hw, (c0_is R).1.1 w hw]
    rfl
  have hinv := fwR_inv (c := c) hp (show (600 : Int) ≤ 1024 by decide) (D0r_A R) h0
  intro n
  induction n with
  | zero =>
    intro _ u v hu hv
    refine ⟨(D0r_in hu hv).symm, ?_⟩
    show bnd (20480 * 2 ^ 0) (rM2c c J _)
    exact bnd0 R hu hv
  | succ n ih =>
    intro hn u v hu hv
    have ih := ih (by omega)
    have hz : lp (rM3m c) n (rM2c c J) (13 * (n + 1) + (n + 1)) = 0 := by
      refine dRo_0 ?_
      rw [(ih n n (by omega) (by omega)).1]
      exact (hinv n (by omega)).2.1 (n + 1) ⟨by omega, hn⟩
    show dRo (rM3m c n (lp (rM3m c) n (rM2c c J)) (13 * (u + 1) + (v + 1))) = fwS (n + 1) (fwR (D0r c J) n) (u + 1) (v + 1) ∧ bnd (20480 * 2 ^ (n + 1)) (rM3m c n (lp (rM3m c) n (rM2c c J)) (13 * (u + 1) + (v + 1)))
    rw [rM3_is hc (by omega) hz hu hv]
    obtain ⟨x1, x2⟩ := ih u v hu hv
    obtain ⟨a1, a2⟩ := ih u n hu (by omega)
    obtain ⟨b1, b2⟩ := ih n v (by omega) hv
    have hM : (0 : Int) ≤ 20480 * 2 ^ n := Int.mul_nonneg (by decide) (Int.pow_nonneg (by decide))
    obtain ⟨g1, g2⟩ := g3_opt hM (pw_bnd n (by omega)) x2 a2 b2
    refine ⟨?_, ?_⟩
    · rw [g1, x1, a1, b1]
      rfl
    · rw [show (20480 * 2 ^ (n + 1) : Int) = 2 * (20480 * 2 ^ n) from by rw [Int.pow_succ]; omega]
      exact g2
/-- the reference's costs -/
theorem ref_opt (R : Rel c I L J) (hs : sndB c I = true) {u v : Nat} (hu : u < c) (hv : v < c) : (∀ l, wlk (eS J) gbf l (u + 1) (v + 1) → oLe (dRo (rMeas c J (13 * (u + 1) + (v + 1)))) (some (wV 1024 (eR J) (eS J) (eD J) l))) ∧ (∀ x, dRo (rMeas c J (13 * (u + 1) + (v + 1))) = some x → ∃ l, wlk (eS J) gbf l (u + 1) (v + 1) ∧ x = wV 1024 (eR J) (eS J) (eD J) l) := by
  have hc := R.hc
  obtain ⟨p, hp⟩ := pot_is R hs
  have h0 : ∀ u, inV c u → D0r c J u u = some 0 := fun u hu => by
    obtain ⟨w, rfl⟩ : ∃ w, u = w + 1 := ⟨u - 1, by have := hu.1; omega⟩
    have hw : w < c := by have := hu.2; omega
    rw [D0r_in hw hw, (c0_is R).1.1 w hw]
    rfl
  have e : dRo (rMeas c J (13 * (u + 1) + (v + 1))) = fwR (D0r c J) c (u + 1) (v + 1) := (rStage R hs c (Nat.le_refl _) u v hu hv).1
  rw [e]
  have hinv := fwR_inv (c := c) hp (show (600 : Int) ≤ 1024 by decide) (D0r_A R) h0 c (Nat.le_refl _)
  refine ⟨fun l hl => ?_, fun x hx => hinv.1 _ _ x hx⟩
  refine fwR_opt hp (show (600 : Int) ≤ 1024 by decide) (D0r_A R) h0 (fun i hi => (eS_is R (by omega)).1) (fun i hi h => eK_in R hi h) ?_ l _ _ ⟨by omega, by omega⟩ hl
  intro i hi h1
  have hk := eK_in R hi h1
  have hsc := (eS_is R (i := i) (by omega)).1
  have hval : wV 1024 (eR J) (eS J) (eD J) [i] = 1024 * eR J i - eD J (eS J i) := rfl
  by_cases q : eS J i = gbf i
  · rw [← q, h0 _ ⟨h1, hsc⟩]
    intro y hy
    cases hy
    have hw : wlk (eS J) gbf [i] (eS J i) (eS J i) := ⟨⟨hi, rfl, h1⟩, q.symm⟩
    exact ⟨0, rfl, wlk_closed hp (show (600 : Int) ≤ 1024 by decide) hw⟩
  · obtain ⟨b1, b2⟩ := (c0_is R).2 i hi h1 q
    intro y hy
    cases hy
    refine ⟨(rM2c c J (13 * eS J i + gbf i)).toInt, ?_, by rw [hval]; exact b2⟩
    unfold D0r
    rw [if_pos ⟨⟨h1, hsc⟩, hk⟩]
    exact if_neg b1
end RFP
