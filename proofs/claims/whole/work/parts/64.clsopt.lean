/-! The class's least and longest before the stages. -/
theorem hPut_en {G : Nat → Nat → Int32} {u v : Nat} {r t : Int32} (hu : u < 13) {a b : Nat} (ha : a < 13) : en (hPut G u v r t) a b = if a = u ∧ b = v then (r, t) else en G a b := by
  unfold en hPut
  by_cases e : a = u
  · subst e
    rw [upI_self, upI_ne _ _ (by omega), upI_self]
    by_cases e2 : b = v
    · subst e2; rw [if_pos ⟨rfl, rfl⟩, pk_us, pk_us]
    · rw [if_neg (fun q => e2 q.2), pk_un e2, pk_un e2]
  · rw [if_neg (fun q => e q.1), upI_ne _ _ (by omega), upI_ne _ _ (by omega), upI_ne _ _ (by omega), upI_ne _ _ (by omega)]
theorem hI1_en {G : Nat → Nat → Int32} {u : Nat} (hu : u < 13) {a : Nat} (ha : a < 13) (b : Nat) : ∀ n, en (lp (fun i I => hPut I u (i + 1) (-1) (-1)) n G) a (b + 1) = if a = u ∧ b < n then (-1, -1) else en G a (b + 1) := by
  intro n
  induction n with
  | zero => rw [if_neg (by omega)]; rfl
  | succ n ih =>
    show en (hPut (lp (fun i I => hPut I u (i + 1) (-1) (-1)) n G) u (n + 1) (-1) (-1)) a (b + 1) = _
    rw [hPut_en hu ha, ih]
    by_cases e : a = u ∧ b = n
    · rw [if_pos (show a = u ∧ b + 1 = n + 1 by omega), if_pos (show a = u ∧ b < n + 1 by omega)]
    · rw [if_neg (show ¬ (a = u ∧ b + 1 = n + 1) by omega)]
      by_cases e2 : a = u ∧ b < n
      · rw [if_pos e2, if_pos (show a = u ∧ b < n + 1 by omega)]
      · rw [if_neg e2, if_neg (show ¬ (a = u ∧ b < n + 1) by omega)]
theorem hM1_en {c : Nat} (hc : c ≤ 12) (I : Nat → Nat → Int32) {a b : Nat} (ha : a < c) (hb : b < c) : ∀ n, n ≤ c → en (lp (fun i G => hI2 c (i + 1) G) n I) (a + 1) (b + 1) = if a < n then (if a = b then (0, I 11 (a + 1)) else (-1, -1)) else en I (a + 1) (b + 1) := by
  intro n
  induction n with
  | zero => intro _; rw [if_neg (by omega)]; rfl
  | succ n ih =>
    intro hn
    have hlow : lp (fun i G => hI2 c (i + 1) G) n I 11 = I 11 := lp_keep (P := fun (G : Nat → Nat → Int32) => G 11 = I 11) rfl n (fun i t _ ht => by rw [hI2_low (by decide)]; exact ht)
    show en (hI2 c (n + 1) (lp (fun i G => hI2 c (i + 1) G) n I)) (a + 1) (b + 1) = _
    have ih := ih (by omega)
    generalize lp (fun i G => hI2 c (i + 1) G) n I = X at ih hlow ⊢
    unfold hI2
    rw [hOffer_en (by omega) (by omega)]
    unfold hI1
    rw [hI1_en (by omega) (by omega) b c, hI1_en (by omega) (by omega) n c]
    have h11 : hI1 c (n + 1) X 11 = I 11 := by rw [hI1_low (by decide)]; exact hlow
    unfold hI1 at h11
    rw [h11]
    by_cases e : a = n
    · subst e
      rw [if_pos (show a + 1 = a + 1 ∧ a < c from ⟨rfl, ha⟩), if_pos (show a + 1 = a + 1 ∧ b < c from ⟨rfl, hb⟩), if_pos (show a < a + 1 by omega)]
      by_cases e2 : a = b
      · subst e2
        rw [if_pos (show a + 1 = a + 1 ∧ a + 1 = a + 1 from ⟨rfl, rfl⟩), if_pos rfl]
        rfl
      · rw [if_neg (show ¬ (a + 1 = a + 1 ∧ b + 1 = a + 1) by omega), if_neg e2]
    · rw [if_neg (show ¬ (a + 1 = n + 1 ∧ b + 1 = n + 1) by omega), if_neg (show ¬ (a + 1 = n + 1 ∧ b < c) by omega), ih]
      by_cases e2 : a < n
      · rw [if_pos e2, if_pos (show a < n + 1 by omega)]
      · rw [if_neg e2, if_neg (show ¬ a < n + 1 by omega)]
section CLO
variable {c : Nat} {I : Nat → Nat → Int32} {L : Nat → Nat → Int64} {J : Nat → Nat → Int32}
def k0A (c : Nat) (J G : Nat → Nat → Int32) : Prop := (∀ u, u < c → en G (u + 1) (u + 1) = (0, J 2 (u + 1))) ∧ (∀ u v, u < c → v < c → u ≠ v → (en G (u + 1) (v + 1)).1 = -1 ∨ ∃ i, i < 24 ∧ eS J i = u + 1 ∧ gbf i = v + 1 ∧ en G (u + 1) (v + 1) = (nI (eR J i), nI (eD J (u + 1) + eD J (v + 1))))
def k0B (J G : Nat → Nat → Int32) (n : Nat) : Prop := ∀ i, i < n → i < 24 → 1 ≤ eS J i → eS J i ≠ gbf i → oLe (dP (eD J (gbf i)) (en G (eS J i) (gbf i))) (some (100000000 * (eR J i : Int) - (eD J (eS J i) : Int)))
/-- a wire's offer, as a number -/
theorem off_val (R : Rel c I L J) {i : Nat} (hi : i < 24) (h : 1 ≤ eS J i) : dP (eD J (gbf i)) (nI (eR J i), nI (eD J (eS J i) + eD J (gbf i))) = some (100000000 * (eR J i : Int) - (eD J (eS J i) : Int)) ∧ bP (eD J (gbf i)) 20 (nI (eR J i), nI (eD J (eS J i) + eD J (gbf i))) ∧ ¬ nI (eR J i) = -1 := by
  have hc := R.hc
  have h1 := (eR_is R (i := i) (by omega)).2
  have h2 := (eS_is R (i := i) (by omega)).1
  have h3 := (eD_is R (g := eS J i) (by omega)).2
  have h4 := (eD_is R (g := gbf i) (by have := (eK_in R hi h).2; omega)).2
  have t1 : (nI (eR J i)).toInt = eR J i := nI_toInt (by omega)
  have t2 : (nI (eD J (eS J i) + eD J (gbf i))).toInt = ((eD J (eS J i) + eD J (gbf i) : Nat) : Int) := nI_toInt (by omega)
  have hn : ¬ nI (eR J i) = -1 := m1_toInt (by rw [t1]; omega)
  refine ⟨?_, Or.inr ?_, hn⟩
  · unfold dP
    rw [if_neg (show ¬ (nI (eR J i), nI (eD J (eS J i) + eD J (gbf i))).1 = -1 from hn)]
    show some (100000000 * (nI (eR J i)).toInt - ((nI (eD J (eS J i) + eD J (gbf i))).toInt - eD J (gbf i))) = _
    refine congrArg some ?_
    rw [t1, t2, Int.natCast_add]
    omega
  · show 0 ≤ (nI (eR J i)).toInt ∧ (nI (eR J i)).toInt ≤ 20 ∧ 0 ≤ (nI (eD J (eS J i) + eD J (gbf i))).toInt - eD J (gbf i) ∧ (nI (eD J (eS J i) + eD J (gbf i))).toInt - eD J (gbf i) ≤ 50 * 20
    rw [t1, t2]
    omega
theorem k0_bnd (R : Rel c I L J) {G : Nat → Nat → Int32} (hA : k0A c J G) {u v : Nat} (hu : u < c) (hv : v < c) : bP (eD J (v + 1)) 20 (en G (u + 1) (v + 1)) := by
  have hc := R.hc
  by_cases e : u = v
  · subst e
    rw [hA.1 u hu]
    obtain ⟨d1, d2⟩ := eD_is R (g := u + 1) (by omega)
    refine Or.inr ?_
    show 0 ≤ (0 : Int32).toInt ∧ (0 : Int32).toInt ≤ 20 ∧ 0 ≤ (J 2 (u + 1)).toInt - eD J (u + 1) ∧ (J 2 (u + 1)).toInt - eD J (u + 1) ≤ 50 * 20
    rw [d1, nI_toInt (by omega)]
    have : (0 : Int32).toInt = 0 := rfl
    rw [this]
    omega
  · rcases hA.2 u v hu hv e with h | ⟨i, hi, e1, e2, e3⟩
    · exact Or.inl h
    · have h := (off_val R hi (by omega)).2.1
      rw [e3, ← e1, ← e2]
      exact h
end CLO
