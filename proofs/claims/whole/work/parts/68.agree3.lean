/-! Class and reference agree: weight, delay. -/
theorem shr_nat {n : Nat} (h : n < 2 ^ 31) : nI n >>> 10 = nI (n / 1024) := by
  apply Int32.toInt_inj.mp
  rw [nI_toInt (by omega)]
  show ((nI n).toBitVec.sshiftRight' ((10 : Int32).toBitVec.smod 32)).toInt = _
  rw [show (10 : Int32).toBitVec.smod 32 = 10#32 from by decide, BitVec.sshiftRight_eq', BitVec.toInt_sshiftRight]
  show (nI n).toInt >>> 10 = _
  rw [nI_toInt h, Int.shiftRight_eq_div_pow]
  omega
/-- the reference reads weight and delay out of a cost -/
theorem cost_read {x : Int32} {r t : Nat} (hr : r ≤ 240) (ht : t ≤ 600) (hx : x.toInt = 1024 * (r : Int) - (t : Int)) (hf : ¬ x = 100000000) : rW1 x = nI r ∧ ∀ dv : Nat, dv ≤ 50 → 1024 * rW1 x - x + nI dv = nI (t + dv) := by
  have e1 : x + 1023 = nI (1024 * r + (1023 - t)) := by
    apply Int32.toInt_inj.mp
    rw [nI_toInt (by omega), Int32.toInt_add, hx, show (1023 : Int32).toInt = 1023 from rfl, Int.bmod_eq_of_le] <;> omega
  have e2 : rW1 x = nI r := by
    unfold rW1
    rw [if_neg hf, e1, shr_nat (by omega), show (1024 * r + (1023 - t)) / 1024 = r from by omega]
  refine ⟨e2, fun dv hdv => ?_⟩
  apply Int32.toInt_inj.mp
  rw [e2, show (1024 : Int32) = nI 1024 from rfl, pk_mul, nI_toInt (n := t + dv) (by omega), Int32.toInt_add, Int32.toInt_sub, hx, nI_toInt (by omega), nI_toInt (by omega), Int.bmod_eq_of_le (n := ((1024 * r : Nat) : Int) - (1024 * (r : Int) - (t : Int))) (by omega) (by omega), Int.bmod_eq_of_le] <;> omega
theorem hPut_hi {I : Nat → Nat → Int32} {u v k : Nat} {r t : Int32} (hu : u < 13) (h : 52 ≤ k) : hPut I u v r t k = I k := by
  unfold hPut
  rw [upI_ne _ _ (by omega), upI_ne _ _ (by omega)]
theorem hOffer_hi {I : Nat → Nat → Int32} {u v k : Nat} {r t : Int32} (hu : u < 13) (h : 52 ≤ k) : hOffer I u v r t k = I k := by
  unfold hOffer
  (repeat' split) <;> first | rfl | exact hPut_hi hu h
theorem hMeas_hi {c : Nat} {I : Nat → Nat → Int32} (hc : c ≤ 12) (hsr : ∀ w, w < 27 → I 12 w ≤ 12) {k : Nat} (h : 52 ≤ k) : hMeas c I k = I k := by
  have a1 : ∀ u G, u < 13 → hI2 c u G k = G k := fun u G hu => by
    unfold hI2
    rw [hOffer_hi hu h]
    exact lp_keep (P := fun (X : Nat → Nat → Int32) => X k = G k) rfl c (fun i t _ ht => by rw [hPut_hi hu h]; exact ht)
  have a2 : hM1 c I k = I k := lp_keep (P := fun (X : Nat → Nat → Int32) => X k = I k) rfl c (fun i t hi ht => by rw [a1 _ _ (by omega)]; exact ht)
  have a3 : hM2 c I k = I k ∧ hM2 c I 12 = I 12 := by
    unfold hM2
    refine lp_keep (P := fun (X : Nat → Nat → Int32) => X k = I k ∧ X 12 = I 12) (f := hWire) (s := hM1 c I) ⟨a2, hM1_low (by decide)⟩ 27 (fun i t hi ht => ⟨?_, by rw [hWire_low (by decide)]; exact ht.2⟩)
    have hb : (bh (t 12) i).toNatClampNeg < 13 := by
      obtain ⟨g, hg, e⟩ := vp_in_of (bh_in (sr := t 12) (w := i) (by rw [ht.2]; exact hsr i hi)) (by decide)
      rw [e, nI_clamp (by omega)]
      exact hg
    unfold hWire
    split
    · exact ht.1
    · split
      · exact ht.1
      · rw [hOffer_hi hb h]; exact ht.1
  have a4 : ∀ u m G, u < 13 → hOver c u m G k = G k := fun u m G hu => by
    unfold hOver
    split
    · refine lp_keep (P := fun (X : Nat → Nat → Int32) => X k = G k) rfl c (fun i t _ ht => ?_)
      show hOv t u m (i + 1) k = G k
      unfold hOv
      split
      · exact ht
      · rw [hOffer_hi hu h]; exact ht
    · rfl
  have a5 : ∀ m G, hM3 c m G k = G k := fun m G => lp_keep (P := fun (X : Nat → Nat → Int32) => X k = G k) rfl c (fun i t hi ht => by rw [a4 _ _ _ (by omega)]; exact ht)
  unfold hMeas
  exact lp_keep (P := fun (X : Nat → Nat → Int32) => X k = I k) (f := fun m G => hM3 c (m + 1) G) (s := hM2 c I) a3.1 c (fun i t _ ht => by rw [a5]; exact ht)
section AGW
variable {c : Nat} {fil : Int32} {I : Nat → Nat → Int32} {L : Nat → Nat → Int64} {J : Nat → Nat → Int32}
theorem Rel_sr (R : Rel c I L J) : ∀ w, w < 27 → I 12 w ≤ 12 := fun w hw => by
  have hc := R.hc
  rw [R.fr w hw]
  rcases R.frb w hw with (e | e | e) | ⟨g, hg, e⟩
  · rw [e]; decide
  · rw [e]; decide
  · rw [e]; decide
  · rw [e]; exact nI_le (b := 12) (by omega) (by decide)
/-- measuring keeps class and reference tied -/
theorem Rel_meas (R : Rel c I L J) : Rel c (aI2 c I) L (rK c J) := by
  have hc := R.hc
  have R1 := Rel_snd R
  refine Rel_ext R (fun j h => ?_) (fun j h => rK_ne (by omega) (by omega))
  unfold aI2
  rcases h with h | h | h | h | h | h
  all_goals subst h
  · rw [hMeas_low (by decide)]; exact oI_ne (by decide) (by decide)
  · rw [hMeas_low (by decide)]; exact oI_ne (by decide) (by decide)
  · rw [hMeas_low (by decide)]; exact oI_ne (by decide) (by decide)
  · rw [hMeas_low (by decide)]; exact oI_ne (by decide) (by decide)
  · rw [hMeas_low (by decide)]; exact oI_ne (by decide) (by decide)
  · rw [hMeas_hi hc (Rel_sr R1) (by decide)]; exact oI_ne (by decide) (by decide)
/-- the entries behind a sound check -/
theorem meas_both (R : Rel c I L J) (hs : sndB c I = true) {u v : Nat} (u1 : 1 ≤ u) (u2 : u ≤ c) (v1 : 1 ≤ v) (v2 : v ≤ c) : (aI2 c I (26 + u) v = -1 ∧ aI2 c I (39 + u) v = (en (aI2 c I) u v).2 ∧ rK c J 12 (13 * u + v) = 100000000) ∨ ∃ r t : Nat, t ≤ 600 ∧ r ≤ 240 ∧ aI2 c I (26 + u) v = nI r ∧ aI2 c I (39 + u) v = nI (t + eD J v) ∧ rWt (rK c J 12) u v = nI r ∧ rDl (rK c J 12) (rK c J 2) u v = nI (t + eD J v) := by
  have hc := R.hc
  have R1 := Rel_snd R
  have hs1 : sndB c (oI c I) = true := by rw [snd_eq R1, ← snd_eq (Rel_sndJ R)]; exact hs
  obtain ⟨u, rfl⟩ : ∃ w, u = w + 1 := ⟨u - 1, by omega⟩
  obtain ⟨v, rfl⟩ : ∃ w, v = w + 1 := ⟨v - 1, by omega⟩
  have e12 : rK c J 12 = rMeas c (rSnI c J) := rfl
  have e2 : rK c J 2 = J 2 := rK_ne (by decide) (by decide)
  have eDD : eD (rSnI c J) (v + 1) = eD J (v + 1) := by unfold eD; rw [rSnI_ne (by decide)]
  rcases meas_same R1 hs1 (u := u) (v := v) (by omega) (by omega) with ⟨h1, h2⟩ | ⟨r, t, h1, h2, h3, h4, h5⟩
  · exact Or.inl ⟨h1, rfl, h2⟩
  · rw [eDD] at h3
    obtain ⟨k1, k2⟩ := cost_read h2 h1 h4 h5
    obtain ⟨d1, d2⟩ := eD_is R (g := v + 1) (by omega)
    refine Or.inr ⟨r, t, h1, h2, congrArg Prod.fst h3, congrArg Prod.snd h3, k1, ?_⟩
    unfold rDl
    rw [e2, d1]
    exact k2 _ d2
end AGW
