/-! The class's least and longest: the wires. -/
theorem o2_c (e o : Int32 × Int32) : o2 e o = e ∨ o2 e o = o := by
  unfold o2
  split
  · exact Or.inr rfl
  · split
    · exact Or.inr rfl
    · split
      · exact Or.inl rfl
      · split
        · exact Or.inl rfl
        · exact Or.inr rfl
section CLP
variable {c : Nat} {I : Nat → Nat → Int32} {L : Nat → Nat → Int64} {J : Nat → Nat → Int32}
theorem self_0 (R : Rel c I L J) (hs : sndB c I = true) {i : Nat} (hi : i < 24) (h1 : 1 ≤ eS J i) (e : eS J i = gbf i) (h0 : eR J i = 0) : eD J (eS J i) = 0 := by
  obtain ⟨p, hp⟩ := pot_is R hs
  have h := hp i hi h1
  rw [h0, ← e] at h
  omega
theorem k0_step (R : Rel c I L J) (hs : sndB c I = true) {w : Nat} (hw : w < 27) {G : Nat → Nat → Int32} (g11 : G 11 = I 11) (g12 : G 12 = I 12) (g13 : G 13 = I 13) (hA : k0A c J G) (hB : k0B J G w) : k0A c J (hWire w G) ∧ k0B J (hWire w G) (w + 1) := by
  have hc := R.hc
  obtain ⟨s1, s2, s3⟩ := eS_is R (i := w) hw
  obtain ⟨g, hg, eb, e0, e1⟩ := Rel_bh R hw
  have hgs : g = eS J w := by
    by_cases q : g = 0
    · rw [q]; exact (s3.mpr (e0.mp q)).symm
    · have h1 := e1 (by omega)
      have h2 : 1 ≤ eS J w := by
        by_cases q2 : eS J w = 0
        · exact absurd (e0.mpr (s3.mp q2)) q
        · omega
      rw [s2 h2] at h1
      exact ((nI_eq (by omega) (by omega)).mp h1).symm
  subst hgs
  unfold hWire
  rw [g12, eb]
  by_cases q0 : nI (eS J w) = 0
  · rw [if_pos q0]
    refine ⟨hA, fun j hj hj24 h1 h2 => ?_⟩
    by_cases e : j = w
    · subst e
      have := (nI_eq (b := 0) (by omega) (by decide)).mp q0
      omega
    · exact hB j (by omega) hj24 h1 h2
  · rw [if_neg q0]
    have hs1 : 1 ≤ eS J w := by
      by_cases q : eS J w = 0
      · rw [q] at q0; exact absurd rfl q0
      · omega
    by_cases qk : gbf w = 0
    · rw [if_pos qk]
      refine ⟨hA, fun j hj hj24 h1 h2 => ?_⟩
      by_cases e : j = w
      · subst e
        rw [gbf_lt hj24] at qk
        omega
      · exact hB j (by omega) hj24 h1 h2
    · rw [if_neg qk]
      have hw24 : w < 24 := by
        by_cases q : w < 24
        · exact q
        · exact absurd (by unfold gbf; rw [if_pos (by omega)]) qk
      have hk := eK_in R hw24 hs1
      have hk2 := hk.2
      obtain ⟨r1, r2⟩ := eR_is R (i := w) hw
      obtain ⟨d1, d2⟩ := eD_is R (g := eS J w) (by omega)
      obtain ⟨d3, d4⟩ := eD_is R (g := gbf w) (by omega)
      have ev : (G 13 w, G 11 (eS J w) + G 11 (gbf w)) = (nI (eR J w), nI (eD J (eS J w) + eD J (gbf w))) := by
        rw [g13, g11, R.mn w hw, R.ds _ (by omega), R.ds _ (by omega), r1, d1, d3, nI_add]
      have hen : ∀ a b, a < 13 → en (hOffer G (nI (eS J w)).toNatClampNeg (gbf w) (G 13 w) (G 11 (nI (eS J w)).toNatClampNeg + G 11 (gbf w))) a b = if a = eS J w ∧ b = gbf w then o2 (en G (eS J w) (gbf w)) (nI (eR J w), nI (eD J (eS J w) + eD J (gbf w))) else en G a b := by
        intro a b ha
        rw [nI_clamp (by omega), hOffer_en (by omega) ha, ev]
      generalize hOffer G (nI (eS J w)).toNatClampNeg (gbf w) (G 13 w) (G 11 (nI (eS J w)).toNatClampNeg + G 11 (gbf w)) = X at hen ⊢
      obtain ⟨v1, v2, v3⟩ := off_val R hw24 hs1
      refine ⟨⟨fun u hu => ?_, fun u v hu hv huv => ?_⟩, fun j hj hj24 h1 h2 => ?_⟩
      · rw [hen _ _ (by omega)]
        by_cases e : u + 1 = eS J w ∧ u + 1 = gbf w
        · rw [if_pos e, ← e.1, ← e.2, hA.1 u hu]
          unfold o2
          rw [if_neg (show ¬ ((0 : Int32), J 2 (u + 1)).1 = -1 from (by decide : ¬ (0 : Int32) = -1)), if_neg (show ¬ nI (eR J w) < 0 from nI_pos (by omega))]
          by_cases q : eR J w = 0
          · have hz := self_0 R hs hw24 hs1 (by omega) q
            rw [← e.1] at hz
            have hz2 : J 2 (u + 1) = 0 := by rw [(eD_is R (g := u + 1) (by omega)).1, hz]; rfl
            rw [q, hz, hz2]
            rfl
          · rw [if_pos (show ¬ nI (eR J w) = 0 from fun x => q ((nI_eq (b := 0) (by omega) (by decide)).mp x))]
        · rw [if_neg e]
          exact hA.1 u hu
      · rw [hen _ _ (by omega)]
        by_cases e : u + 1 = eS J w ∧ v + 1 = gbf w
        · rw [if_pos e]
          rcases o2_c (en G (eS J w) (gbf w)) (nI (eR J w), nI (eD J (eS J w) + eD J (gbf w))) with q | q
          · rw [q, ← e.1, ← e.2]
            exact hA.2 u v hu hv huv
          · rw [q]
            exact Or.inr ⟨w, hw24, e.1.symm, e.2.symm, by rw [e.1, e.2]⟩
        · rw [if_neg e]
          exact hA.2 u v hu hv huv
      · have hkj := eK_in R hj24 h1
        have hsj := (eS_is R (i := j) (by omega)).1
        rw [hen _ _ (by omega)]
        by_cases e : eS J j = eS J w ∧ gbf j = gbf w
        · rw [if_pos e, e.2]
          have hb : bP (eD J (gbf w)) 20 (en G (eS J w) (gbf w)) := by
            have := k0_bnd R hA (u := eS J w - 1) (v := gbf w - 1) (by omega) (by omega)
            rw [show eS J w - 1 + 1 = eS J w from by omega, show gbf w - 1 + 1 = gbf w from by have := hk.1; omega] at this
            exact this
          rw [(o2_opt (show (50 * 20 : Int) < 100000000 by decide) hb v2 v3).1]
          by_cases e5 : j = w
          · subst e5
            rw [← v1]
            exact oMn_r _ _
          · have h3 := hB j (by omega) hj24 h1 h2
            rw [e.1, e.2] at h3
            rw [e.1]
            exact oLe_trans (oMn_l _ _) h3
        · rw [if_neg e]
          refine hB j ?_ hj24 h1 h2
          by_cases e5 : j = w
          · subst e5; exact absurd ⟨rfl, rfl⟩ e
          · omega
theorem k0_is (R : Rel c I L J) (hs : sndB c I = true) : k0A c J (hM2 c I) ∧ k0B J (hM2 c I) 27 := by
  have hc := R.hc
  have h : ∀ n, n ≤ 27 → k0A c J (lp hWire n (hM1 c I)) ∧ k0B J (lp hWire n (hM1 c I)) n := by
    intro n
    induction n with
    | zero =>
      intro _
      refine ⟨⟨fun u hu => ?_, fun u v hu hv huv => Or.inl ?_⟩, fun i hi => absurd hi (Nat.not_lt_zero _)⟩
      · show en (hM1 c I) (u + 1) (u + 1) = _
        unfold hM1
        rw [hM1_en hc I hu hu c (Nat.le_refl _), if_pos hu, if_pos rfl, R.ds (u + 1) (by omega)]
      · show (en (hM1 c I) (u + 1) (v + 1)).1 = -1
        unfold hM1
        rw [hM1_en hc I hu hv c (Nat.le_refl _), if_pos hu, if_neg huv]
    | succ n ih =>
      intro hn
      obtain ⟨a, b⟩ := ih (by omega)
      have hlow : ∀ k, k < 26 → lp hWire n (hM1 c I) k = I k := fun k hk => lp_keep (P := fun (G : Nat → Nat → Int32) => G k = I k) (hM1_low hk) n (fun i t _ ht => by rw [hWire_low hk]; exact ht)
      exact k0_step R hs (by omega) (hlow 11 (by decide)) (hlow 12 (by decide)) (hlow 13 (by decide)) a b
  unfold hM2
  exact h 27 (Nat.le_refl _)
end CLP
