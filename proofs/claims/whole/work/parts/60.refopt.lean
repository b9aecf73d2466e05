/-! The reference's costs are what the best walks are worth. -/
section RFO
variable {c : Nat} {I : Nat → Nat → Int32} {L : Nat → Nat → Int64} {J : Nat → Nat → Int32}
def c0A (c : Nat) (J : Nat → Nat → Int32) (f : Nat → Int32) : Prop := (∀ u, u < c → f (13 * (u + 1) + (u + 1)) = 0) ∧ (∀ u v, u < c → v < c → u ≠ v → f (13 * (u + 1) + (v + 1)) = 100000000 ∨ ∃ i, i < 24 ∧ eS J i = u + 1 ∧ gbf i = v + 1 ∧ (f (13 * (u + 1) + (v + 1))).toInt = 1024 * eR J i - eD J (eS J i))
def c0B (J : Nat → Nat → Int32) (n : Nat) (f : Nat → Int32) : Prop := ∀ i, i < n → 1 ≤ eS J i → eS J i ≠ gbf i → ¬ f (13 * eS J i + gbf i) = 100000000 ∧ (f (13 * eS J i + gbf i)).toInt ≤ 1024 * eR J i - eD J (eS J i)
theorem c0_val (R : Rel c I L J) {i : Nat} (hi : i < 24) (h : 1 ≤ eS J i) : (1024 * J 4 i - J 2 (J 3 i).toNatClampNeg).toInt = 1024 * eR J i - eD J (eS J i) := by
  have hc := R.hc
  obtain ⟨s1, s2, s3⟩ := eS_is R (i := i) (by omega)
  obtain ⟨r1, r2⟩ := eR_is R (i := i) (by omega)
  rw [s2 h, nI_clamp (by omega)]
  obtain ⟨d1, d2⟩ := eD_is R (g := eS J i) (by omega)
  rw [r1, d1, show (1024 : Int32) = nI 1024 from rfl, pk_mul, Int32.toInt_sub, nI_toInt (by omega), nI_toInt (by omega), Int.bmod_eq_of_le] <;> omega
theorem c0_step (R : Rel c I L J) {i : Nat} (hi : i < 24) {f : Nat → Int32} (hA : c0A c J f) (hB : c0B J i f) : c0A c J (rM2 J i f) ∧ c0B J (i + 1) (rM2 J i f) := by
  have hc := R.hc
  obtain ⟨s1, s2, s3⟩ := eS_is R (i := i) (by omega)
  have hF : (100000000 : Int32).toInt = 100000000 := rfl
  unfold rM2
  by_cases q1 : J 3 i ≤ 0
  · rw [if_pos q1]
    refine ⟨hA, fun j hj h1 h2 => ?_⟩
    by_cases e : j = i
    · subst e; have := s3.mpr q1; omega
    · exact hB j (by omega) h1 h2
  · rw [if_neg q1]
    have hs : 1 ≤ eS J i := by
      by_cases e : eS J i = 0
      · exact absurd (s3.mp e) q1
      · omega
    have hv := eK_in R hi hs
    by_cases q2 : nI (gbf i) = J 3 i
    · rw [if_pos q2]
      refine ⟨hA, fun j hj h1 h2 => ?_⟩
      by_cases e : j = i
      · subst e
        rw [s2 hs] at q2
        have := (nI_eq (by have := hv.2; omega) (by omega)).mp q2
        exact absurd this.symm h2
      · exact hB j (by omega) h1 h2
    · rw [if_neg q2]
      have hne : eS J i ≠ gbf i := fun e => q2 (by rw [s2 hs, e])
      have hval := c0_val R hi hs
      have e3 : (J 3 i).toNatClampNeg = eS J i := by rw [s2 hs, nI_clamp (by omega)]
      rw [e3] at hval ⊢
      obtain ⟨r1, r2⟩ := eR_is R (i := i) (by omega)
      have hd2 := (eD_is R (g := eS J i) (by omega)).2
      generalize hx : 1024 * J 4 i - J 2 (eS J i) = x at hval ⊢
      have hxF : ¬ x = 100000000 := fun e => by rw [e, hF] at hval; omega
      have hy : ∀ y, y = (if f (13 * eS J i + gbf i) ≤ x then f (13 * eS J i + gbf i) else x) → ¬ y = 100000000 ∧ y.toInt ≤ x.toInt ∧ y.toInt ≤ (f (13 * eS J i + gbf i)).toInt ∧ (y = x ∨ y = f (13 * eS J i + gbf i)) := by
        intro y e
        by_cases q : f (13 * eS J i + gbf i) ≤ x
        · rw [if_pos q] at e
          subst e
          rw [Int32.le_iff_toInt_le] at q
          refine ⟨fun e => ?_, q, Int.le_refl _, Or.inr rfl⟩
          rw [e, hF, hval] at q
          omega
        · rw [if_neg q] at e
          subst e
          rw [Int32.le_iff_toInt_le] at q
          exact ⟨hxF, Int.le_refl _, by omega, Or.inl rfl⟩
      generalize (if f (13 * eS J i + gbf i) ≤ x then f (13 * eS J i + gbf i) else x) = y at hy ⊢
      obtain ⟨y1, y2, y3, y4⟩ := hy y rfl
      have ix : ∀ a b, a < c → b < c → (13 * (a + 1) + (b + 1) = 13 * eS J i + gbf i ↔ a + 1 = eS J i ∧ b + 1 = gbf i) := fun a b ha hb => by
        have := hv.2
        have := hv.1
        constructor
        · intro h; omega
        · intro h; rw [h.1, h.2]
      refine ⟨⟨fun u hu => ?_, fun u v hu hvv huv => ?_⟩, fun j hj h1 h2 => ?_⟩
      · rw [pk_un (fun e => hne (by have := (ix u u hu hu).mp e; omega))]
        exact hA.1 u hu
      · by_cases e : 13 * (u + 1) + (v + 1) = 13 * eS J i + gbf i
        · obtain ⟨e1, e2⟩ := (ix u v hu hvv).mp e
          rw [e, pk_us]
          rcases y4 with e4 | e4
          · exact Or.inr ⟨i, hi, e1.symm, e2.symm, by rw [e4]; exact hval⟩
          · rw [e4, ← e]
            exact hA.2 u v hu hvv huv
        · rw [pk_un e]
          exact hA.2 u v hu hvv huv
      · by_cases e : 13 * eS J j + gbf j = 13 * eS J i + gbf i
        · rw [e, pk_us]
          refine ⟨y1, ?_⟩
          by_cases e5 : j = i
          · subst e5; rw [← hval]; exact y2
          · have h3 := (hB j (by omega) h1 h2).2
            rw [e] at h3
            omega
        · rw [pk_un e]
          refine hB j ?_ h1 h2
          by_cases e5 : j = i
          · subst e5; exact absurd rfl e
          · omega
theorem c0_is (R : Rel c I L J) : c0A c J (rM2c c J) ∧ c0B J 24 (rM2c c J) := by
  have hc := R.hc
  have h : ∀ n, n ≤ 24 → c0A c J (lp (rM2 J) n (rM1c c (J 12))) ∧ c0B J n (lp (rM2 J) n (rM1c c (J 12))) := by
    intro n
    induction n with
    | zero =>
      intro _
      refine ⟨⟨fun u hu => ?_, fun u v hu hv huv => Or.inl ?_⟩, fun i hi => absurd hi (Nat.not_lt_zero _)⟩
      · show rM1c c (J 12) _ = 0
        rw [rM1_is hc _ hu hu, if_pos rfl]
      · show rM1c c (J 12) _ = _
        rw [rM1_is hc _ hu hv, if_neg huv]
    | succ n ih =>
      intro hn
      obtain ⟨a, b⟩ := ih (by omega)
      exact c0_step R (by omega) a b
  exact h 24 (Nat.le_refl _)
/-- the reference's first costs, as a table -/
def D0r (c : Nat) (J : Nat → Nat → Int32) (u v : Nat) : Option Int := if (1 ≤ u ∧ u ≤ c) ∧ (1 ≤ v ∧ v ≤ c) then dRo (rM2c c J (13 * u + v)) else none
theorem D0r_in {u v : Nat} (hu : u < c) (hv : v < c) : D0r c J (u + 1) (v + 1) = dRo (rM2c c J (13 * (u + 1) + (v + 1))) := if_pos ⟨⟨by omega, by omega⟩, by omega, by omega⟩
theorem D0r_A (R : Rel c I L J) : fwA (eS J) gbf (eR J) (eD J) 1024 (D0r c J) := by
  intro u v x e
  unfold D0r at e
  by_cases h : (1 ≤ u ∧ u ≤ c) ∧ (1 ≤ v ∧ v ≤ c)
  · rw [if_pos h] at e
    obtain ⟨u, rfl⟩ : ∃ w, u = w + 1 := ⟨u - 1, by omega⟩
    obtain ⟨v, rfl⟩ : ∃ w, v = w + 1 := ⟨v - 1, by omega⟩
    obtain ⟨a, _⟩ := c0_is R
    by_cases e2 : u = v
    · subst e2
      rw [a.1 u (by omega)] at e
      cases e
      exact ⟨[], rfl, rfl⟩
    · unfold dRo at e
      rcases a.2 u v (by omega) (by omega) e2 with h2 | ⟨i, hi, e3, e4, e5⟩
      · rw [if_pos h2] at e; cases e
      · split at e
        · cases e
        · cases e
          refine ⟨[i], ⟨⟨hi, e3, by omega⟩, e4⟩, ?_⟩
          rw [e5]
          show _ = 1024 * ((eR J i + 0 : Nat) : Int) - ((eD J (eS J i) + 0 : Nat) : Int)
          rfl
  · rw [if_neg h] at e; cases e
theorem bnd0 (R : Rel c I L J) {u v : Nat} (hu : u < c) (hv : v < c) : bnd 20480 (rM2c c J (13 * (u + 1) + (v + 1))) := by
  have hc := R.hc
  obtain ⟨a, _⟩ := c0_is R
  by_cases e2 : u = v
  · subst e2
    rw [a.1 u hu]
    exact Or.inr ⟨by decide, by decide⟩
  · rcases a.2 u v hu hv e2 with h2 | ⟨i, hi, e3, e4, e5⟩
    · exact Or.inl h2
    · refine Or.inr ?_
      have h1 := (eR_is R (i := i) (by omega)).2
      have h2 := (eS_is R (i := i) (by omega)).1
      have h3 := (eD_is R (g := eS J i) (by omega)).2
      omega
end RFO
