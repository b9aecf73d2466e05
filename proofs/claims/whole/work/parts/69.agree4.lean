/-! Class and reference agree: weight, period. -/
section AGP
variable {c : Nat} {fil : Int32} {I : Nat → Nat → Int32} {L : Nat → Nat → Int64} {J : Nat → Nat → Int32}
theorem weight_agr (R : Rel c I L J) (x y : Int32) : gOn c (aMat 26 c fil I L x y).2 (rWeight c J x y).2.2 ∧ AgI [(2, 1), (3, 2)] (aMat 26 c fil I L x y).1 (rWeight c J x y).2.1 (rWeight c J x y).1 := by
  have hc := R.hc
  unfold aMat rWeight
  by_cases h1 : qP_hasGate (nI c) x = 0
  · rw [if_pos h1, if_pos h1]
    exact ⟨gOn_same R, by show ((2 : Nat), (1 : Int32)) ∈ _; decide⟩
  rw [if_neg h1, if_neg h1]
  by_cases h2 : qP_hasGate (nI c) y = 0
  · rw [if_pos h2, if_pos h2]
    exact ⟨gOn_same R, by show ((2 : Nat), (1 : Int32)) ∈ _; decide⟩
  rw [if_neg h2, if_neg h2, ← snd_eq R]
  cases hs : sndB c I with
  | false =>
    rw [if_neg Bool.false_ne_true, if_neg Bool.false_ne_true]
    exact ⟨sndH_on R, by show ((3 : Nat), (2 : Int32)) ∈ _; decide⟩
  | true =>
    rw [if_pos rfl, if_pos rfl]
    obtain ⟨u, u1, u2, rfl⟩ := hasG hc h1
    obtain ⟨v, v1, v2, rfl⟩ := hasG hc h2
    rw [nI_clamp (by omega), nI_clamp (by omega)]
    refine ⟨⟨nI c, _, L, rfl, Rel_meas R⟩, rfl, ?_⟩
    rcases meas_both R hs u1 u2 v1 v2 with ⟨e1, _, e2⟩ | ⟨r, t, ht, hr, e1, _, e2, _⟩
    · have e3 : rWt (rK c J 12) u v = 1000 := by unfold rWt rW1; rw [e2]; rfl
      rw [e1, e3, if_neg (not_not_intro rfl)]
    · rw [e1, e2, if_pos (show ¬ nI r = 1000 from fun q => by have := (nI_eq (b := 1000) (by omega) (by decide)).mp q; omega)]
theorem per_eq (R : Rel c I L J) (hs : sndB c I = true) : hLu c (aI2 c I) = rPer c (rK c J 12) (rK c J 2) := by
  unfold hLu rPer
  refine lp_eq c (fun u s hu => ?_)
  show lp (fun v x => hLu1 (aI2 c I) (u + 1) (v + 1) x) c s = rPu c (rK c J 12) (rK c J 2) u s
  unfold rPu
  refine lp_eq c (fun v s hv => ?_)
  show hLu1 (aI2 c I) (u + 1) (v + 1) s = rP1 (rK c J 12) (rK c J 2) u v s
  unfold hLu1 rP1
  rcases meas_both R hs (u := u + 1) (v := v + 1) (by omega) (by omega) (by omega) (by omega) with ⟨e1, _, e2⟩ | ⟨r, t, ht, hr, e1, e3, e2, e4⟩
  · have e3 : rWt (rK c J 12) (u + 1) (v + 1) = 1000 := by unfold rWt rW1; rw [e2]; rfl
    rw [e1, e3, if_pos (by decide), if_pos (by decide)]
  · rw [e1, e2, e3, e4]
    by_cases q : nI r = 0
    · rw [if_neg (not_not_intro q), if_neg (not_not_intro q)]
      by_cases q2 : nI (t + eD J (v + 1)) ≤ s
      · rw [if_pos q2, if_neg (show ¬ s < nI (t + eD J (v + 1)) from fun h => by rw [Int32.lt_iff_toInt_lt] at h; rw [Int32.le_iff_toInt_le] at q2; omega)]
      · rw [if_neg q2, if_pos (show s < nI (t + eD J (v + 1)) by rw [Int32.lt_iff_toInt_lt]; rw [Int32.le_iff_toInt_le] at q2; omega)]
    · rw [if_pos q, if_pos q]
theorem period_agr (R : Rel c I L J) : gOn c (aPer c fil I L).2 (rPeriod c J).2.2 ∧ AgI [(3, 1)] (aPer c fil I L).1 (rPeriod c J).2.1 (rPeriod c J).1 := by
  unfold aPer rPeriod
  rw [← snd_eq R]
  cases hs : sndB c I with
  | false =>
    rw [if_neg Bool.false_ne_true, if_neg Bool.false_ne_true]
    exact ⟨sndH_on R, by show ((3 : Nat), (1 : Int32)) ∈ _; decide⟩
  | true =>
    rw [if_pos rfl, if_pos rfl]
    refine ⟨⟨nI c, _, L, rfl, Rel_meas R⟩, rfl, ?_⟩
    rw [per_eq R hs]
end AGP
