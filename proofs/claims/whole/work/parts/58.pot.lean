/-! The circuit as walks: sources, sinks, registers, delays; the potential of a sound circuit. -/
def eS (J : Nat → Nat → Int32) (i : Nat) : Nat := if J 3 i ≤ 0 then 0 else (J 3 i).toNatClampNeg
def eR (J : Nat → Nat → Int32) (i : Nat) : Nat := (J 4 i).toNatClampNeg
def eD (J : Nat → Nat → Int32) (g : Nat) : Nat := (J 2 g).toNatClampNeg
/-- delays of the first n gates of the order -/
def sD (d pl : Nat → Nat) : Nat → Nat
  | 0 => 0
  | n + 1 => sD d pl n + d (pl n)
theorem sD_mono (d pl : Nat → Nat) : ∀ {n m : Nat}, n ≤ m → sD d pl n ≤ sD d pl m := by
  intro n m
  induction m with
  | zero => intro h; rw [show n = 0 from by omega]; exact Nat.le_refl _
  | succ m ih =>
    intro h
    by_cases e : n = m + 1
    · rw [e]; exact Nat.le_refl _
    · have := ih (by omega)
      show sD d pl n ≤ sD d pl m + d (pl m)
      omega
theorem sD_le {d pl : Nat → Nat} {c : Nat} (h : ∀ a, a < c → d (pl a) ≤ 50) : ∀ n, n ≤ c → sD d pl n ≤ 50 * n
  | 0, _ => Nat.le_refl _
  | n + 1, hn => by
    have a := sD_le h n (by omega)
    have b := h n (by omega)
    show sD d pl n + d (pl n) ≤ 50 * (n + 1)
    omega
section POT
variable {c : Nat} {I : Nat → Nat → Int32} {L : Nat → Nat → Int64} {J : Nat → Nat → Int32}
theorem eS_is (R : Rel c I L J) {i : Nat} (hi : i < 27) : eS J i ≤ c ∧ (1 ≤ eS J i → J 3 i = nI (eS J i)) ∧ (eS J i = 0 ↔ J 3 i ≤ 0) := by
  have hc := R.hc
  unfold eS
  rcases R.frb i hi with h | ⟨g, hg, e⟩
  · rw [if_pos (i32_neg_le h).2.1]
    exact ⟨Nat.zero_le _, fun h => absurd h (by decide), ⟨fun _ => (i32_neg_le h).2.1, fun _ => rfl⟩⟩
  · rw [e, nI_clamp (by omega)]
    by_cases q : nI g ≤ 0
    · rw [if_pos q]
      exact ⟨Nat.zero_le _, fun h => absurd h (by decide), ⟨fun _ => q, fun _ => rfl⟩⟩
    · rw [if_neg q]
      refine ⟨hg, fun _ => rfl, ⟨fun h => ?_, fun h => absurd h q⟩⟩
      subst h
      decide
theorem eR_is (R : Rel c I L J) {i : Nat} (hi : i < 27) : J 4 i = nI (eR J i) ∧ eR J i ≤ 20 := by
  unfold eR
  obtain ⟨m, hm, e⟩ := R.mnb i hi
  rw [e, nI_clamp (by omega)]
  exact ⟨rfl, hm⟩
theorem eD_is (R : Rel c I L J) {g : Nat} (hg : g < 13) : J 2 g = nI (eD J g) ∧ eD J g ≤ 50 := by
  unfold eD
  obtain ⟨m, hm, e⟩ := R.dsb g hg
  rw [e, nI_clamp (by omega)]
  exact ⟨rfl, hm⟩
theorem eK_in (R : Rel c I L J) {i : Nat} (hi : i < 24) (h : 1 ≤ eS J i) : inV c (gbf i) := by
  have h3 := (eS_is R (i := i) (by omega)).2.1 h
  have h4 := (eS_is R (i := i) (by omega)).1
  have hc := R.hc
  refine ⟨by rw [gbf_lt hi]; omega, ?_⟩
  by_cases q : gbf i ≤ c
  · exact q
  · have := R.frs i hi (by omega)
    rw [this] at h3
    have := (nI_eq (a := 0) (b := eS J i) (by decide) (by omega)).mp h3
    omega
/-- a sound circuit has a potential -/
theorem pot_is (R : Rel c I L J) (hs : sndB c I = true) : ∃ p : Nat → Int, ∀ i, i < 24 → 1 ≤ eS J i → (eD J (eS J i) : Int) ≤ 600 * eR J i + p (gbf i) - p (eS J i) := by
  have hc := R.hc
  obtain ⟨pl, q1, q2, q3, q4⟩ := order_is R hs
  have hpos : ∃ pos : Nat → Nat, ∀ g, inV c g → pos g < c ∧ pl (pos g) = g := by
    refine ⟨fun g => if h : 1 ≤ g ∧ g ≤ c then Classical.choose (q2 g h.1 h.2) else 0, fun g hg => ?_⟩
    show (if h : 1 ≤ g ∧ g ≤ c then Classical.choose (q2 g h.1 h.2) else 0) < c ∧ pl (if h : 1 ≤ g ∧ g ≤ c then Classical.choose (q2 g h.1 h.2) else 0) = g
    rw [dif_pos (show 1 ≤ g ∧ g ≤ c from hg)]
    exact Classical.choose_spec (q2 g hg.1 hg.2)
  obtain ⟨pos, hpos⟩ := hpos
  have hd : ∀ a, a < c → eD J (pl a) ≤ 50 := fun a ha => (eD_is R (by have := (q1 a ha).2.1; omega)).2
  refine ⟨fun g => (sD (eD J) pl (pos g) : Int), fun i hi h1 => ?_⟩
  show (eD J (eS J i) : Int) ≤ 600 * eR J i + (sD (eD J) pl (pos (gbf i)) : Int) - (sD (eD J) pl (pos (eS J i)) : Int)
  obtain ⟨s1, s2, _⟩ := eS_is R (i := i) (by omega)
  have hu : inV c (eS J i) := ⟨h1, s1⟩
  have hv := eK_in R hi h1
  obtain ⟨pu1, pu2⟩ := hpos _ hu
  obtain ⟨pv1, pv2⟩ := hpos _ hv
  have hsum : sD (eD J) pl (pos (eS J i) + 1) = sD (eD J) pl (pos (eS J i)) + eD J (eS J i) := by
    show sD (eD J) pl (pos (eS J i)) + eD J (pl (pos (eS J i))) = _
    rw [pu2]
  by_cases hr : eR J i = 0
  · have hdep : depW c J (gbf i) (eS J i) := by
      refine ⟨h1, s1, i % 2, ?_, ?_, ?_⟩
      · have hp := pn_le (J 1) (gbf i)
        by_cases q : i % 2 < pn (J 1) (gbf i)
        · exact q
        · exfalso
          have e1 : pn (J 1) (gbf i) = 1 := by omega
          have := R.frp (gbf i) hv.1 hv.2 e1
          rw [gbf_lt hi, show 2 * (i / 2 + 1) - 1 = i from by omega, s2 h1] at this
          have := (nI_eq (b := 0) (by omega) (by decide)).mp this
          omega
      · rw [gbf_lt hi, show 2 * (i / 2 + 1) - 2 + i % 2 = i from by omega, (eR_is R (by omega)).1, hr]
        rfl
      · rw [gbf_lt hi, show 2 * (i / 2 + 1) - 2 + i % 2 = i from by omega]
        exact s2 h1
    rw [← pv2] at hdep
    obtain ⟨b, hb, eb⟩ := q4 _ _ pv1 hdep
    have : b = pos (eS J i) := q3 b _ (by omega) pu1 (by rw [eb, pu2])
    subst this
    have := sD_mono (eD J) pl (show pos (eS J i) + 1 ≤ pos (gbf i) by omega)
    rw [hr]
    omega
  · have := sD_le hd (pos (eS J i) + 1) (by omega)
    have h12 : 50 * (pos (eS J i) + 1) ≤ 600 := by omega
    omega
end POT
