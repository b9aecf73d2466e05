/-! Class and reference agree: delay. -/
section AGD
variable {c : Nat} {fil : Int32} {I : Nat → Nat → Int32} {L : Nat → Nat → Int64} {J : Nat → Nat → Int32}
/-- no way: both entries are -1 -/
def nn (c : Nat) (G : Nat → Nat → Int32) : Prop := ∀ u v, u < c → v < c → (en G (u + 1) (v + 1)).1 = -1 → (en G (u + 1) (v + 1)).2 = -1
theorem nn_o2 {e o : Int32 × Int32} (he : e.1 = -1 → e.2 = -1) (ho : ¬ o.1 = -1) : (o2 e o).1 = -1 → (o2 e o).2 = -1 := by
  rcases o2_c e o with q | q
  · rw [q]; exact he
  · rw [q]; exact fun h => absurd h ho
theorem nn_first (R : Rel c I L J) : nn c (hM2 c I) := by
  have hc := R.hc
  have h : ∀ n, n ≤ 27 → nn c (lp hWire n (hM1 c I)) := by
    intro n
    induction n with
    | zero =>
      intro _ u v hu hv
      rw [lp_zero]
      unfold hM1
      rw [hM1_en hc I hu hv c (Nat.le_refl _), if_pos hu]
      split
      · exact fun h => absurd h (by decide : ¬ (0 : Int32) = -1)
      · exact fun _ => rfl
    | succ n ih =>
      intro hn
      have ih := ih (by omega)
      have hlow : ∀ k, k < 26 → lp hWire n (hM1 c I) k = I k := fun k hk => lp_keep (P := fun (G : Nat → Nat → Int32) => G k = I k) (hM1_low hk) n (fun i t _ ht => by rw [hWire_low hk]; exact ht)
      show nn c (hWire n (lp hWire n (hM1 c I)))
      have g12 := hlow 12 (by decide)
      have g13 := hlow 13 (by decide)
      generalize lp hWire n (hM1 c I) = G at ih g12 g13 ⊢
      unfold hWire
      split
      · exact ih
      · split
        · exact ih
        · intro u v hu hv
          obtain ⟨g, hg, eb, _, _⟩ := Rel_bh R (w := n) (by omega)
          rw [g12, eb, nI_clamp (by omega), hOffer_en (by omega) (by omega)]
          split
          · rename_i e
            have h1 := ih u v hu hv
            rw [e.1, e.2] at h1
            refine nn_o2 h1 ?_
            show ¬ G 13 n = -1
            rw [g13, R.mn n (by omega), (eR_is R (i := n) (by omega)).1]
            have := (eR_is R (i := n) (by omega)).2
            exact m1_toInt (by rw [nI_toInt (by omega)]; omega)
          · exact ih u v hu hv
  unfold hM2
  exact h 27 (Nat.le_refl _)
theorem nn_stage (R : Rel c I L J) (hs : sndB c I = true) : ∀ n, n ≤ c → nn c (lp (fun m G => hM3 c (m + 1) G) n (hM2 c I)) := by
  have hc := R.hc
  obtain ⟨p, hp⟩ := pot_is R hs
  have hinv := fwR_inv (c := c) hp (show (600 : Int) ≤ 100000000 by decide) (D0k_A R hs) (D0k_0 R hs)
  intro n
  induction n with
  | zero => intro _; rw [lp_zero]; exact nn_first R
  | succ n ih =>
    intro hn
    have ih := ih (by omega)
    obtain ⟨i11, ks⟩ := kStage R hs n (by omega)
    show nn c (hM3 c (n + 1) (lp (fun m G => hM3 c (m + 1) G) n (hM2 c I)))
    generalize lp (fun m G => hM3 c (m + 1) G) n (hM2 c I) = G at i11 ks ih ⊢
    have hM2 := pw_bnd2 n (by omega)
    obtain ⟨m1, m2⟩ := ks n n (by omega) (by omega)
    have dn := eD_is R (g := n + 1) (by omega)
    have e11 : G 11 (n + 1) = nI (eD J (n + 1)) := by rw [i11, R.ds _ (by omega)]; exact dn.1
    have hz : en G (n + 1) (n + 1) = (0, G 11 (n + 1)) := by
      rw [e11]
      refine dP_0 dn.2 hM2 m2 ?_
      rw [m1]
      exact (hinv n (by omega)).2.1 (n + 1) ⟨by omega, hn⟩
    obtain ⟨_, k2⟩ := hM3_is hc (show n < c by omega) hz
    intro u v hu hv
    rw [k2 u v hu hv]
    have h1 := ih u v hu hv
    obtain ⟨_, a2⟩ := ks u n hu (by omega)
    obtain ⟨_, b2⟩ := ks n v (by omega) hv
    unfold c3
    by_cases qa : (en G (u + 1) (n + 1)).1 = -1
    · rw [if_pos qa]; exact h1
    · rw [if_neg qa]
      by_cases qb : (en G (n + 1) (v + 1)).1 = -1
      · rw [if_pos qb]; exact h1
      · rw [if_neg qb]
        refine nn_o2 h1 ?_
        obtain ⟨a3, a4, _⟩ := a2.resolve_left qa
        obtain ⟨b3, b4, _⟩ := b2.resolve_left qb
        refine m1_toInt ?_
        show 0 ≤ ((en G (u + 1) (n + 1)).1 + (en G (n + 1) (v + 1)).1).toInt
        rw [Int32.toInt_add, Int.bmod_eq_of_le] <;> omega
theorem delay_agr (R : Rel c I L J) (x y : Int32) : gOn c (aMat 39 c fil I L x y).2 (rDelay c J x y).2.2 ∧ AgI [(2, 1), (3, 2)] (aMat 39 c fil I L x y).1 (rDelay c J x y).2.1 (rDelay c J x y).1 := by
  have hc := R.hc
  unfold aMat rDelay
  by_cases h1 : qP_hasGate (nI c) x = 0
  · rw [if_pos h1, if_pos h1]
    exact ⟨gOn_same R, by show ((2 : Nat), (1 : Int32)) ∈ _; decide⟩
  rw [if_neg h1, if_neg h1]
  by_cases h2 : qP_hasGate (nI c) y = 0
  · rw [if_pos h2, if_pos h2]
    exact ⟨gOn_same R, by show ((2 : Nat), (1 : Int32)) ∈ _; decide⟩
  rw [if_neg h2, if_neg h2, ← snd_eq R]
  cases hs : sndB c I with
  | false =>
    rw [if_neg Bool.false_ne_true, if_neg Bool.false_ne_true]
    exact ⟨sndH_on R, by show ((3 : Nat), (2 : Int32)) ∈ _; decide⟩
  | true =>
    rw [if_pos rfl, if_pos rfl]
    obtain ⟨u, u1, u2, rfl⟩ := hasG hc h1
    obtain ⟨v, v1, v2, rfl⟩ := hasG hc h2
    rw [nI_clamp (by omega), nI_clamp (by omega)]
    refine ⟨⟨nI c, _, L, rfl, Rel_meas R⟩, rfl, ?_⟩
    have R1 := Rel_snd R
    have hs1 : sndB c (oI c I) = true := by rw [snd_eq R1, ← snd_eq (Rel_sndJ R)]; exact hs
    rcases meas_both R hs u1 u2 v1 v2 with ⟨e1, _, e2⟩ | ⟨r, t, ht, hr, e1, e4, e2, e3⟩
    · have e3 : rWt (rK c J 12) u v = 1000 := by unfold rWt rW1; rw [e2]; rfl
      have hn := nn_stage R1 hs1 c (Nat.le_refl _) (u - 1) (v - 1) (by omega) (by omega)
      rw [show u - 1 + 1 = u from by omega, show v - 1 + 1 = v from by omega] at hn
      have e5 : aI2 c I (39 + u) v = -1 := hn e1
      rw [e5, e3, if_neg (not_not_intro rfl)]
    · rw [e4, e2, e3, if_pos (show ¬ nI r = 1000 from fun q => by have := (nI_eq (b := 1000) (by omega) (by decide)).mp q; omega)]
end AGD
