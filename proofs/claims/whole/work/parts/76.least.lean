/-! The period can be had; class and reference agree on the least period. -/
section LST
variable {c : Nat} {fil : Int32} {I G : Nat → Nat → Int32} {L : Nat → Nat → Int64} {J : Nat → Nat → Int32}
/-- a sound circuit has a bounded potential -/
theorem pot_is2 (R : Rel c I L J) (hs : sndB c I = true) : ∃ p : Nat → Int, (∀ i, i < 24 → 1 ≤ eS J i → (eD J (eS J i) : Int) ≤ 600 * eR J i + p (gbf i) - p (eS J i)) ∧ ∀ g, inV c g → 0 ≤ p g ∧ p g + eD J g ≤ 600 := by
  have hc := R.hc
  obtain ⟨pl, q1, q2, q3, q4⟩ := order_is R hs
  have hpos : ∃ pos : Nat → Nat, ∀ g, inV c g → pos g < c ∧ pl (pos g) = g := by
    refine ⟨fun g => if h : 1 ≤ g ∧ g ≤ c then Classical.choose (q2 g h.1 h.2) else 0, fun g hg => ?_⟩
    show (if h : 1 ≤ g ∧ g ≤ c then Classical.choose (q2 g h.1 h.2) else 0) < c ∧ pl (if h : 1 ≤ g ∧ g ≤ c then Classical.choose (q2 g h.1 h.2) else 0) = g
    rw [dif_pos (show 1 ≤ g ∧ g ≤ c from hg)]
    exact Classical.choose_spec (q2 g hg.1 hg.2)
  obtain ⟨pos, hpos⟩ := hpos
  have hd : ∀ a, a < c → eD J (pl a) ≤ 50 := fun a ha => (eD_is R (by have := (q1 a ha).2.1; omega)).2
  refine ⟨fun g => (sD (eD J) pl (pos g) : Int), fun i hi h1 => ?_, fun g hg => ?_⟩
  · show (eD J (eS J i) : Int) ≤ 600 * eR J i + (sD (eD J) pl (pos (gbf i)) : Int) - (sD (eD J) pl (pos (eS J i)) : Int)
    obtain ⟨s1, s2, _⟩ := eS_is R (i := i) (by omega)
    have hu : inV c (eS J i) := ⟨h1, s1⟩
    have hv := eK_in R hi h1
    obtain ⟨pu1, pu2⟩ := hpos _ hu
    obtain ⟨pv1, pv2⟩ := hpos _ hv
    have hsum : sD (eD J) pl (pos (eS J i) + 1) = sD (eD J) pl (pos (eS J i)) + eD J (eS J i) := by
      show sD (eD J) pl (pos (eS J i)) + eD J (pl (pos (eS J i))) = _
      rw [pu2]
    by_cases hr : eR J i = 0
    · have hdep : depW c J (gbf i) (eS J i) := by
        refine ⟨h1, s1, i % 2, ?_, ?_, ?_⟩
        · have hp := pn_le (J 1) (gbf i)
          by_cases q : i % 2 < pn (J 1) (gbf i)
          · exact q
          · exfalso
            have e1 : pn (J 1) (gbf i) = 1 := by omega
            have := R.frp (gbf i) hv.1 hv.2 e1
            rw [gbf_lt hi, show 2 * (i / 2 + 1) - 1 = i from by omega, s2 h1] at this
            have := (nI_eq (b := 0) (by omega) (by decide)).mp this
            omega
        · rw [gbf_lt hi, show 2 * (i / 2 + 1) - 2 + i % 2 = i from by omega, (eR_is R (by omega)).1, hr]
          rfl
        · rw [gbf_lt hi, show 2 * (i / 2 + 1) - 2 + i % 2 = i from by omega]
          exact s2 h1
      rw [← pv2] at hdep
      obtain ⟨b, hb, eb⟩ := q4 _ _ pv1 hdep
      have : b = pos (eS J i) := q3 b _ (by omega) pu1 (by rw [eb, pu2])
      subst this
      have := sD_mono (eD J) pl (show pos (eS J i) + 1 ≤ pos (gbf i) by omega)
      rw [hr]
      omega
    · have := sD_le hd (pos (eS J i) + 1) (by omega)
      have h12 : 50 * (pos (eS J i) + 1) ≤ 600 := by omega
      omega
  · obtain ⟨p1, p2⟩ := hpos g hg
    have hsum : sD (eD J) pl (pos g + 1) = sD (eD J) pl (pos g) + eD J g := by
      show sD (eD J) pl (pos g) + eD J (pl (pos g)) = _
      rw [p2]
    have := sD_le hd (pos g + 1) (by omega)
    show 0 ≤ (sD (eD J) pl (pos g) : Int) ∧ (sD (eD J) pl (pos g) : Int) + eD J g ≤ 600
    omega
theorem Ent_meas (R : Rel c I L J) (hs : sndB c I = true) : Ent c (aI2 c I) (rK c J) := fun u v hu hv => by
  have hc := R.hc
  rcases meas_both R hs (u := u + 1) (v := v + 1) (by omega) (by omega) (by omega) (by omega) with ⟨e1, e2, e3⟩ | ⟨r, t, ht, hr, e1, e2, e3, e4⟩
  · refine Or.inl ⟨e1, ?_, ?_⟩
    · have R1 := Rel_snd R
      have hs1 : sndB c (oI c I) = true := by rw [snd_eq R1, ← snd_eq (Rel_sndJ R)]; exact hs
      exact nn_stage R1 hs1 c (Nat.le_refl _) u v hu hv e1
    · unfold rWt rW1; rw [e3]; rfl
  · have := (eD_is R (g := v + 1) (by omega)).2
    exact Or.inr ⟨r, t + eD J (v + 1), hr, by omega, e1, e2, e3, e4⟩
/-- pairs that no register parts are within 600 -/
def Z6 (c : Nat) (J : Nat → Nat → Int32) : Prop := ∀ u v, u < c → v < c → rWt (J 12) (u + 1) (v + 1) = 0 → ∃ t, t ≤ 600 ∧ rDl (J 12) (J 2) (u + 1) (v + 1) = nI t
theorem Z6_meas (R : Rel c I L J) (hs : sndB c I = true) : Z6 c (rK c J) := fun u v hu hv h0 => by
  have hc := R.hc
  have R1 := Rel_snd R
  have hs1 : sndB c (oI c I) = true := by rw [snd_eq R1, ← snd_eq (Rel_sndJ R)]; exact hs
  have e2 : rK c J 2 = J 2 := rK_ne (by decide) (by decide)
  have eDD : eD (rSnI c J) (v + 1) = eD J (v + 1) := by unfold eD; rw [rSnI_ne (by decide)]
  have e12 : rK c J 12 = rMeas c (rSnI c J) := rfl
  rw [e12] at h0 ⊢
  rcases meas_same R1 hs1 hu hv with ⟨h1, h2⟩ | ⟨r, t, h1, h2, h3, h4, h5⟩
  · unfold rWt rW1 at h0
    rw [h2, if_pos rfl] at h0
    exact absurd h0 (by decide)
  · obtain ⟨k1, k2⟩ := cost_read h2 h1 h4 h5
    obtain ⟨d1, d2⟩ := eD_is R (g := v + 1) (by omega)
    have r0 : r = 0 := by
      unfold rWt at h0
      rw [k1] at h0
      exact (nI_eq (b := 0) (by omega) (by decide)).mp h0
    refine ⟨t + eD J (v + 1), ?_, ?_⟩
    · obtain ⟨p, hp, hb⟩ := pot_is2 R1 hs1
      obtain ⟨_, m2⟩ := ref_opt R1 hs1 hu hv
      obtain ⟨l, hl, el⟩ := m2 _ (if_neg h5)
      have hw := wlk_pot (R := eR (rSnI c J)) (d := eD (rSnI c J)) hp hl
      have b1 := hb (u + 1) ⟨by omega, by omega⟩
      have b2 := hb (v + 1) ⟨by omega, by omega⟩
      unfold wV at el
      rw [eDD] at b2
      rw [h4, r0] at el
      omega
    · unfold rDl
      rw [e2, d1]
      exact k2 _ d2
/-- the period, and every pair that no register parts is within it -/
theorem hLu_is (E : Ent c G J) (Z : Z6 c J) : ∃ p, p ≤ 600 ∧ hLu c G = nI p ∧ ∀ u v, u < c → v < c → G (26 + (u + 1)) (v + 1) = 0 → G (39 + (u + 1)) (v + 1) ≤ nI p := by
  have step : ∀ u v, u < c → v < c → ∀ p, p ≤ 600 → ∃ p2, p2 ≤ 600 ∧ p ≤ p2 ∧ hLu1 G (u + 1) (v + 1) (nI p) = nI p2 ∧ (G (26 + (u + 1)) (v + 1) = 0 → G (39 + (u + 1)) (v + 1) ≤ nI p2) := fun u v hu hv p hp => by
    unfold hLu1
    by_cases q : G (26 + (u + 1)) (v + 1) = 0
    · rw [if_neg (not_not_intro q)]
      rcases E u v hu hv with ⟨e1, _⟩ | ⟨r, t, hr, ht, e1, e2, e3, e4⟩
      · rw [e1] at q; exact absurd q (by decide)
      · rw [e1] at q
        obtain ⟨t2, ht2, e5⟩ := Z u v hu hv (by rw [e3]; exact q)
        rw [e4] at e5
        have et := (nI_eq (by omega) (by omega)).mp e5
        rw [e2]
        by_cases l : nI p < nI t
        · rw [if_pos l]
          have := (nI_ltI (by omega) (by omega)).mp l
          exact ⟨t, by omega, by omega, rfl, fun _ => nI_le (Nat.le_refl _) (by omega)⟩
        · rw [if_neg l]
          have : ¬ p < t := fun q => l (nI_lt q (by omega))
          exact ⟨p, hp, Nat.le_refl _, rfl, fun _ => nI_le (by omega) (by omega)⟩
    · rw [if_pos q]
      exact ⟨p, hp, Nat.le_refl _, rfl, fun e => absurd e q⟩
  have inner : ∀ u, u < c → ∀ m, m ≤ c → ∀ p, p ≤ 600 → ∃ p2, p2 ≤ 600 ∧ p ≤ p2 ∧ lp (fun v x => hLu1 G (u + 1) (v + 1) x) m (nI p) = nI p2 ∧ ∀ v, v < m → G (26 + (u + 1)) (v + 1) = 0 → G (39 + (u + 1)) (v + 1) ≤ nI p2 := fun u hu m => by
    induction m with
    | zero => exact fun _ p hp => ⟨p, hp, Nat.le_refl _, rfl, fun v hv => absurd hv (Nat.not_lt_zero _)⟩
    | succ m ih =>
      intro hm p hp
      obtain ⟨p1, a1, a2, a3, a4⟩ := ih (by omega) p hp
      obtain ⟨p2, b1, b2, b3, b4⟩ := step u m hu (by omega) p1 a1
      refine ⟨p2, b1, by omega, ?_, fun v hv q => ?_⟩
      · show hLu1 G (u + 1) (m + 1) (lp (fun v x => hLu1 G (u + 1) (v + 1) x) m (nI p)) = _
        rw [a3]; exact b3
      · by_cases e : v = m
        · subst e; exact b4 q
        · have h1 := a4 v (by omega) q
          have h2 := nI_le b2 (show p2 < 2 ^ 31 by omega)
          rw [Int32.le_iff_toInt_le] at h1 h2 ⊢
          omega
  have outer : ∀ m, m ≤ c → ∃ p2, p2 ≤ 600 ∧ lp (fun u x => lp (fun v x => hLu1 G (u + 1) (v + 1) x) c x) m 0 = nI p2 ∧ ∀ u v, u < m → v < c → G (26 + (u + 1)) (v + 1) = 0 → G (39 + (u + 1)) (v + 1) ≤ nI p2 := fun m => by
    induction m with
    | zero => exact fun _ => ⟨0, by omega, rfl, fun u v hu => absurd hu (Nat.not_lt_zero _)⟩
    | succ m ih =>
      intro hm
      obtain ⟨p1, a1, a3, a4⟩ := ih (by omega)
      obtain ⟨p2, b1, b2, b3, b4⟩ := inner m (by omega) c (Nat.le_refl _) p1 a1
      refine ⟨p2, b1, ?_, fun u v hu hv q => ?_⟩
      · show lp (fun v x => hLu1 G (m + 1) (v + 1) x) c (lp (fun u x => lp (fun v x => hLu1 G (u + 1) (v + 1) x) c x) m 0) = _
        rw [a3]; exact b3
      · by_cases e : u = m
        · subst e; exact b4 v hv q
        · have h1 := a4 u v (by omega) hv q
          have h2 := nI_le b2 (show p2 < 2 ^ 31 by omega)
          rw [Int32.le_iff_toInt_le] at h1 h2 ⊢
          omega
  obtain ⟨p, h1, h2, h3⟩ := outer c (Nat.le_refl _)
  exact ⟨p, h1, h2, h3⟩
/-- the period k can be had -/
def rch (c : Nat) (J : Nat → Nat → Int32) (k : Nat) : Prop := ∃ g, Sol (Cn c J (nI k)) c 6 g
theorem rch_up {k k2 : Nat} (h : k ≤ k2) (h2 : k2 < 2 ^ 31) (hr : rch c J k) : rch c J k2 := by
  obtain ⟨g, hg⟩ := hr
  refine ⟨g, Sol_mono (fun a b x hC => ?_) hg⟩
  rcases hC with q | ⟨u, hu, v, hv, q1, q2⟩
  · exact Or.inl q
  · refine Or.inr ⟨u, hu, v, hv, ?_, q2⟩
    have := of_decide_eq_true q1
    refine decide_eq_true ⟨this.1, fun l => this.2 ?_⟩
    have l2 := nI_le h h2
    rw [Int32.le_iff_toInt_le] at l l2 ⊢
    omega
theorem rch_per (R : Rel c G L J) (E : Ent c G J) (Z : Z6 c J) : ∃ p, p ≤ 600 ∧ hLu c G = nI p ∧ rch c J p := by
  have hc := R.hc
  obtain ⟨p, h1, h2, h3⟩ := hLu_is E Z
  refine ⟨p, h1, h2, fun _ => 0, rfl, fun a _ _ => by show (-6 : Int) ≤ 0 ∧ (0 : Int) ≤ 6; omega, fun a b x hC => ?_⟩
  show (0 : Int) ≤ 0 + x
  rcases hC with ⟨w, hw, h0, q⟩ | ⟨u, hu, v, hv, q1, q2, q3, q4⟩
  · obtain ⟨_, _, _, m, hm, em⟩ := wir R hw h0
    have em2 : (J 4 w).toInt = m := by rw [em, nI_toInt (by omega)]
    rcases q with ⟨_, _, q⟩ | ⟨_, _, q⟩ <;> omega
  · obtain ⟨t1, t2⟩ := of_decide_eq_true q1
    rcases E u v hu hv with ⟨_, _, e3⟩ | ⟨r, t, hr, ht, e1, e2, e3, e4⟩
    · rw [e3] at t1; exact absurd (by decide) t1
    · by_cases r0 : r = 0
      · have := h3 u v hu hv (by rw [e1, r0]; rfl)
        rw [e2, ← e4] at this
        exact absurd this t2
      · rw [q4, e3, nI_toInt (by omega)]
        omega
theorem lSet_65 (R : Rel c G L J) {k : Int32} : lSet c k G 65 = G 65 := by
  have hc := R.hc
  have a0 : ∀ (X : Nat → Nat → Int32) (a b : Nat) (x : Int32), a ≤ 12 → lLim X a b x 65 = X 65 := fun X a b x ha => by
    unfold lLim; exact upI_ne _ _ (by omega)
  have a1 : lS1 c G 65 = G 65 ∧ lS1 c G 12 = G 12 := by
    refine ⟨?_, lS1_low (by decide)⟩
    unfold lS1
    exact lp_keep (P := fun (X : Nat → Nat → Int32) => X 65 = G 65) rfl (c + 1) (fun a t ha ht => lp_keep (P := fun (X : Nat → Nat → Int32) => X 65 = G 65) ht (c + 1) (fun b t _ ht => by rw [upI_ne _ _ (by omega)]; exact ht))
  have a2 : lS2 c G 65 = G 65 ∧ lS2 c G 12 = G 12 := by
    unfold lS2
    refine lp_keep (P := fun (X : Nat → Nat → Int32) => X 65 = G 65 ∧ X 12 = G 12) (f := lWire) (s := lS1 c G) a1 27 (fun i t hi ht => ⟨?_, by rw [lWire_low (by decide)]; exact ht.2⟩)
    unfold lWire
    split
    · exact ht.1
    · obtain ⟨g, hg, eb, _, _⟩ := Rel_bh R hi
      rw [ht.2, eb, nI_clamp (by omega)]
      have := gbf_le hi
      rw [a0 _ _ _ _ (by omega), a0 _ _ _ _ (by omega)]
      exact ht.1
  unfold lSet
  refine lp_keep (P := fun (X : Nat → Nat → Int32) => X 65 = G 65) a2.1 c (fun u t hu ht => ?_)
  show lP2 c k (u + 1) t 65 = G 65
  unfold lP2
  refine lp_keep (P := fun (X : Nat → Nat → Int32) => X 65 = G 65) ht c (fun v t hv ht => ?_)
  show lP1 t (u + 1) (v + 1) k 65 = G 65
  unfold lP1
  split
  · exact ht
  · rw [a0 _ _ _ _ (by omega)]; exact ht
theorem Rel_set (R : Rel c G L J) {k : Int32} {f : Nat → Int32} : Rel c (upI (lSet c k G) 21 f) L J := by
  refine Rel_ext R (fun j h => ?_) (fun _ _ => rfl)
  rcases h with h | h | h | h | h | h
  all_goals subst h
  · rw [upI_ne _ _ (by decide), lSet_low (by decide)]
  · rw [upI_ne _ _ (by decide), lSet_low (by decide)]
  · rw [upI_ne _ _ (by decide), lSet_low (by decide)]
  · rw [upI_ne _ _ (by decide), lSet_low (by decide)]
  · rw [upI_ne _ _ (by decide), lSet_low (by decide)]
  · rw [upI_ne _ _ (by decide), lSet_65 R]
theorem Ent_set (hc : c ≤ 12) (E : Ent c G J) {k : Int32} {f : Nat → Int32} : Ent c (upI (lSet c k G) 21 f) J := fun u v hu hv => by
  rw [upI_ne _ _ (show 26 + (u + 1) ≠ 21 by omega), upI_ne _ _ (show 39 + (u + 1) ≠ 21 by omega), lSet_low (by omega), lSet_low (by omega)]
  exact E u v hu hv
theorem mid_is {lo hi : Nat} (h : lo ≤ 600) (h2 : hi ≤ 600) : (nI lo + nI hi) / 2 = nI ((lo + hi) / 2) := by
  rw [nI_add, show (2 : Int32) = nI 2 from rfl, pk_div (by omega) (by decide) (by decide)]
theorem aLs_is : ∀ (n lo hi : Nat) (G : Nat → Nat → Int32), Rel c G L J → Ent c G J → lo ≤ hi → hi ≤ 600 → hi - lo < 2 ^ n → rch c J hi → (∀ k, k < lo → ¬ rch c J k) → ∃ v G2, aLs c n (nI lo) (nI hi) G = (nI v, G2) ∧ Rel c G2 L J ∧ rch c J v ∧ ∀ k, k < v → ¬ rch c J k
  | 0, lo, hi, G, R, E, h1, h2, h3, h4, h5 => by
    have : lo = hi := by simp at h3; omega
    subst this
    exact ⟨lo, G, rfl, R, h4, h5⟩
  | n + 1, lo, hi, G, R, E, h1, h2, h3, h4, h5 => by
    unfold aLs
    by_cases q : nI hi ≤ nI lo
    · rw [if_pos q]
      have : ¬ lo < hi := fun l => nI_ge l (by omega) q
      have : lo = hi := by omega
      subst this
      exact ⟨lo, G, rfl, R, h4, h5⟩
    · rw [if_neg q]
      have hl : lo < hi := Nat.lt_of_not_le (fun l => q (nI_le l (by omega)))
      rw [mid_is (by omega) h2]
      have h2n : 2 ^ (n + 1) = 2 * 2 ^ n := by rw [Nat.pow_succ, Nat.mul_comm]
      obtain ⟨s, e1, e2, _, e4⟩ := find_agr R E (k := nI ((lo + hi) / 2)) (nI_le (a := 0) (by omega) (by omega)) (tp := 6) (Or.inl rfl)
      rw [← e2]
      cases hs : s.2 with
      | true =>
        rw [if_pos rfl]
        exact aLs_is n lo ((lo + hi) / 2) _ (Rel_set R) (Ent_set R.hc E) (by omega) (by omega) (by omega) (e4.mp hs) h5
      | false =>
        rw [if_neg Bool.false_ne_true, show nI ((lo + hi) / 2) + 1 = nI ((lo + hi) / 2 + 1) from (nI_succ _).symm]
        refine aLs_is n ((lo + hi) / 2 + 1) hi _ (Rel_set R) (Ent_set R.hc E) (by omega) h2 (by omega) h4 (fun k hk hr => ?_)
        have := e4.mpr (rch_up (show k ≤ (lo + hi) / 2 by omega) (by omega) hr)
        rw [hs] at this
        exact Bool.noConfusion this
theorem Cn_ext {J2 : Nat → Nat → Int32} (h : ∀ j, j ≠ 10 → J2 j = J j) (k : Int32) : Cn c J2 k = Cn c J k := by
  funext a b x
  unfold Cn Cw kCt cSr
  rw [h 3 (by decide), h 4 (by decide), h 12 (by decide), h 2 (by decide)]
theorem rLst_is (R : Rel c G L J) (E : Ent c G J) : ∀ (n lo hi : Nat) (J2 : Nat → Nat → Int32), (∀ j, j ≠ 10 → J2 j = J j) → lo ≤ hi → hi ≤ 600 → hi - lo < 2 ^ n → rch c J hi → (∀ k, k < lo → ¬ rch c J k) → ∃ v J3, rLst c n lo hi J2 = some (v, J3) ∧ (∀ j, j ≠ 10 → J3 j = J j) ∧ rch c J v ∧ ∀ k, k < v → ¬ rch c J k
  | 0, lo, hi, J2, hJ, h1, h2, h3, h4, h5 => by
    have : lo = hi := by simp at h3; omega
    subst this
    refine ⟨lo, J2, ?_, hJ, h4, h5⟩
    unfold rLst
    rw [if_pos (Nat.le_refl _)]
  | n + 1, lo, hi, J2, hJ, h1, h2, h3, h4, h5 => by
    unfold rLst
    by_cases q : hi ≤ lo
    · rw [if_pos q]
      have : lo = hi := by omega
      subst this
      exact ⟨lo, J2, rfl, hJ, h4, h5⟩
    · rw [if_neg q]
      have h2n : 2 ^ (n + 1) = 2 * 2 ^ n := by rw [Nat.pow_succ, Nat.mul_comm]
      have R2 : Rel c G L J2 := Rel_ext R (fun _ _ => rfl) (fun j h => hJ j (by omega))
      have E2 : Ent c G J2 := fun u v hu hv => by
        rw [hJ 12 (by decide), hJ 2 (by decide)]; exact E u v hu hv
      obtain ⟨s, e1, e2, _, e4⟩ := find_agr R2 E2 (k := nI ((lo + hi) / 2)) (nI_le (a := 0) (by omega) (by omega)) (tp := 6) (Or.inl rfl)
      rw [Cn_ext hJ] at e4
      have hJ3 : ∀ j, j ≠ 10 → upI J2 10 s.1 j = J j := fun j hj => by rw [upI_ne _ _ hj]; exact hJ j hj
      rw [e1]
      show ∃ v J3, (if s.2 = true then rLst c n lo ((lo + hi) / 2) (upI J2 10 s.1) else rLst c n ((lo + hi) / 2 + 1) hi (upI J2 10 s.1)) = some (v, J3) ∧ _
      cases hs : s.2 with
      | true =>
        rw [if_pos rfl]
        exact rLst_is R E n lo ((lo + hi) / 2) _ hJ3 (by omega) (by omega) (by omega) (e4.mp hs) h5
      | false =>
        rw [if_neg Bool.false_ne_true]
        refine rLst_is R E n ((lo + hi) / 2 + 1) hi _ hJ3 (by omega) h2 (by omega) h4 (fun k hk hr => ?_)
        have := e4.mpr (rch_up (show k ≤ (lo + hi) / 2 by omega) (by omega) hr)
        rw [hs] at this
        exact Bool.noConfusion this
theorem pw_1k (n : Nat) (h : 10 ≤ n) : 1024 ≤ 2 ^ n := Nat.pow_le_pow_right (show 0 < 2 by decide) h
theorem least_agr (R : Rel c I L J) : ∃ q, rLeast c J = some q ∧ gOn c (aLst c fil I L).2 q.2.2 ∧ AgI [(3, 1)] (aLst c fil I L).1 q.2.1 q.1 := by
  have hc := R.hc
  unfold aLst rLeast
  rw [← snd_eq R]
  cases hs : sndB c I with
  | false =>
    rw [if_neg Bool.false_ne_true, if_neg Bool.false_ne_true]
    exact ⟨_, rfl, sndH_on R, by show ((3 : Nat), (1 : Int32)) ∈ _; decide⟩
  | true =>
    rw [if_pos rfl, if_pos rfl]
    have R2 := Rel_meas R
    have E := Ent_meas R hs
    obtain ⟨p, p1, p2, p3⟩ := rch_per R2 E (Z6_meas R hs)
    have h600 : rch c (rK c J) 600 := rch_up p1 (by decide) p3
    obtain ⟨v, G2, a1, a2, a3, a4⟩ := aLs_is 600 0 p _ R2 E (Nat.zero_le _) p1 (Nat.lt_of_lt_of_le (show p - 0 < 1024 by omega) (pw_1k 600 (by decide))) p3 (fun k hk => absurd hk (Nat.not_lt_zero _))
    obtain ⟨v2, J3, b1, b2, b3, b4⟩ := rLst_is R2 E 10 0 600 _ (fun _ _ => rfl) (Nat.zero_le _) (Nat.le_refl _) (by decide) h600 (fun k hk => absurd hk (Nat.not_lt_zero _))
    have ev : v = v2 := by
      by_cases l : v < v2
      · exact absurd a3 (b4 v l)
      · by_cases l2 : v2 < v
        · exact absurd b3 (a4 v2 l2)
        · omega
    rw [b1]
    refine ⟨(nI v2, 0, J3), rfl, ?_, ?_⟩
    · rw [p2, show (0 : Int32) = nI 0 from rfl, a1]
      exact ⟨nI c, G2, L, rfl, Rel_ext a2 (fun _ _ => rfl) (fun j h => b2 j (by omega))⟩
    · rw [p2, show (0 : Int32) = nI 0 from rfl, a1]
      refine ⟨rfl, ?_⟩
      rw [ev]
end LST
