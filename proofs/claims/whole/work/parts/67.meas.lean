/-! Class and reference measure the same. -/
theorem wR_le {S K R : Nat → Nat} {D : Nat} (hR : ∀ i, i < 24 → R i ≤ D) : ∀ {l : List Nat} {u v : Nat}, wlk S K l u v → wR R l ≤ D * l.length
  | [], _, _, _ => Nat.zero_le _
  | i :: l, u, v, h => by
    obtain ⟨⟨h1, h2, h3⟩, h4⟩ := h
    have a := hR i h1
    have b := wR_le hR h4
    show R i + wR R l ≤ D * (l.length + 1)
    rw [Nat.mul_add]
    omega
section MSM
variable {c : Nat} {I : Nat → Nat → Int32} {L : Nat → Nat → Int64} {J : Nat → Nat → Int32}
theorem meas_same (R : Rel c I L J) (hs : sndB c I = true) {u v : Nat} (hu : u < c) (hv : v < c) : ((en (hMeas c I) (u + 1) (v + 1)).1 = -1 ∧ rMeas c J (13 * (u + 1) + (v + 1)) = 100000000) ∨ ∃ r t : Nat, t ≤ 600 ∧ r ≤ 240 ∧ en (hMeas c I) (u + 1) (v + 1) = (nI r, nI (t + eD J (v + 1))) ∧ (rMeas c J (13 * (u + 1) + (v + 1))).toInt = 1024 * (r : Int) - (t : Int) ∧ ¬ rMeas c J (13 * (u + 1) + (v + 1)) = 100000000 := by
  have hc := R.hc
  obtain ⟨p, hp⟩ := pot_is R hs
  obtain ⟨k1, k2, k3⟩ := cls_opt R hs hu hv
  obtain ⟨m1, m2⟩ := ref_opt R hs hu hv
  generalize en (hMeas c I) (u + 1) (v + 1) = e at k1 k2 k3 ⊢
  generalize rMeas c J (13 * (u + 1) + (v + 1)) = x at m1 m2 ⊢
  by_cases q : e.1 = -1
  · refine Or.inl ⟨q, ?_⟩
    have hn : dP (eD J (v + 1)) e = none := if_pos q
    by_cases qx : x = 100000000
    · exact qx
    · have hx : dRo x = some x.toInt := if_neg qx
      obtain ⟨l, hl, _⟩ := m2 _ hx
      obtain ⟨y, hy, _⟩ := k1 l hl _ rfl
      rw [hn] at hy
      cases hy
  · refine Or.inr ?_
    have he : dP (eD J (v + 1)) e = some (100000000 * e.1.toInt - (e.2.toInt - eD J (v + 1))) := if_neg q
    obtain ⟨l, hl, el⟩ := k2 _ he
    have hmin : ∀ s, wlk (eS J) gbf s (u + 1) (v + 1) → wV 100000000 (eR J) (eS J) (eD J) l ≤ wV 100000000 (eR J) (eS J) (eD J) s := fun s hs => by
      obtain ⟨y, hy, ly⟩ := k1 s hs _ rfl
      rw [he] at hy
      cases hy
      omega
    obtain ⟨y, hy, ly⟩ := m1 l hl _ rfl
    have qx : ¬ x = 100000000 := fun h => by
      unfold dRo at hy
      rw [if_pos h] at hy
      cases hy
    have hx : dRo x = some x.toInt := if_neg qx
    obtain ⟨l2, hl2, el2⟩ := m2 _ hx
    have hmin2 : ∀ s, wlk (eS J) gbf s (u + 1) (v + 1) → wV 1024 (eR J) (eS J) (eD J) l2 ≤ wV 1024 (eR J) (eS J) (eD J) s := fun s hs => by
      obtain ⟨y, hy, ly⟩ := m1 s hs _ rfl
      rw [hx] at hy
      cases hy
      omega
    have hS : ∀ i, i < 24 → eS J i ≤ c := fun i hi => (eS_is R (by omega)).1
    have hd : ∀ g, g < 13 → eD J g ≤ 50 := fun g hg => (eD_is R hg).2
    obtain ⟨o1, o2', o3⟩ := opt_same hp hc hS hd (show (1024 : Int) ≤ 100000000 by decide) (show (1024 : Int) ≤ 1024 by decide) hl hl2 hmin hmin2
    obtain ⟨s, s1, s2, s3⟩ := wlk_short hS hp l.length l _ _ (Nat.le_refl _) hl
    have a1 := hmin s s2
    have a2 := s3 100000000 (by decide)
    have a3 := wR_le (D := 20) (fun i hi => (eR_is R (i := i) (by omega)).2) s2
    have a4 := wT_le (D := 50) hd (fun i hi => by have := hS i hi; omega) s2
    obtain ⟨b1, b2, b3, b4⟩ := k3.resolve_left q
    unfold wV at a1 a2 el el2
    have a5 : 20 * s.length ≤ 20 * 12 := Nat.mul_le_mul_left _ (by omega)
    have a6 : 50 * s.length ≤ 50 * 12 := Nat.mul_le_mul_left _ (by omega)
    have hdv := hd (v + 1) (by omega)
    refine ⟨wR (eR J) l, wT (eS J) (eD J) l, o3, ?_, ?_, ?_, qx⟩
    · omega
    · have r1 : e.1.toInt = wR (eR J) l := by omega
      have r2 : e.2.toInt = ((wT (eS J) (eD J) l + eD J (v + 1) : Nat) : Int) := by omega
      have f1 : e.1 = nI (wR (eR J) l) := Int32.toInt_inj.mp (by rw [nI_toInt (by omega)]; exact r1)
      have f2 : e.2 = nI (wT (eS J) (eD J) l + eD J (v + 1)) := Int32.toInt_inj.mp (by rw [nI_toInt (by omega)]; exact r2)
      rw [← f1, ← f2]
    · rw [el2, o1, o2']
end MSM
