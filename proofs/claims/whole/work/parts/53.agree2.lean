/-! Class and reference agree: sound, shared; what a sound check leaves. -/
section AGS
variable {c : Nat} {fil : Int32} {I I' : Nat → Nat → Int32} {L : Nat → Nat → Int64} {J J' : Nat → Nat → Int32}
theorem Rel_ext (R : Rel c I L J) (hI : ∀ j, j = 9 ∨ j = 10 ∨ j = 11 ∨ j = 12 ∨ j = 13 ∨ j = 65 → I' j = I j) (hJ : ∀ j, j = 1 ∨ j = 2 ∨ j = 3 ∨ j = 4 ∨ j = 5 ∨ j = 6 ∨ j = 9 → J' j = J j) : Rel c I' L J' := by
  unfold Rel
  rw [hI 9 (by decide), hI 10 (by decide), hI 11 (by decide), hI 12 (by decide), hI 13 (by decide), hI 65 (by decide), hJ 1 (by decide), hJ 2 (by decide), hJ 3 (by decide), hJ 4 (by decide), hJ 5 (by decide), hJ 6 (by decide), hJ 9 (by decide)]
  exact R
theorem oI_ne {j : Nat} (h : j ≠ 17) (h2 : j ≠ 18) : oI c I j = I j := by
  unfold oI
  rw [upI_ne _ _ h2, upI_ne _ _ h]
theorem Rel_snd (R : Rel c I L J) : Rel c (oI c I) L (rSnI c J) := Rel_ext R (fun j h => oI_ne (by omega) (by omega)) (fun j h => rSnI_ne (by omega))
theorem Rel_sndJ (R : Rel c I L J) : Rel c I L (rSnI c J) := Rel_ext R (fun j h => rfl) (fun j h => rSnI_ne (by omega))
theorem sndH_on (R : Rel c I L J) : gOn c (sndH c fil I L) (rSnI c J) := by
  unfold sndH
  split
  · exact ⟨_, _, L, rfl, Rel_snd R⟩
  · exact ⟨fil, I, L, rfl, Rel_sndJ R⟩
theorem sound_agr (R : Rel c I L J) : gOn c (sndH c fil I L) (rSnI c J) ∧ i01 (sndB c I) = i01 (rSnd c J) := ⟨sndH_on R, by rw [snd_eq R]⟩
theorem lp_eq {α : Type} {f g : Nat → α → α} {s : α} : ∀ n, (∀ i t, i < n → f i t = g i t) → lp f n s = lp g n s
  | 0, _ => rfl
  | n + 1, h => by
    show f n (lp f n s) = g n (lp g n s)
    rw [lp_eq n (fun i t hi => h i t (by omega)), h n _ (Nat.lt_succ_self n)]
theorem most_agr (R : Rel c I L J) (x : Int32) : aMost I x = lp (rS1 J x) 27 0 := by
  unfold aMost
  by_cases hx : x = 0
  · subst hx
    have h1 : lp (rS1 J 0) 27 0 = 0 := lp_keep (P := fun m => m = (0 : Int32)) rfl 27 (fun i t _ ht => by
      show rS1 J 0 i t = 0
      unfold rS1
      rw [if_pos rfl]
      exact ht)
    rw [h1]
    refine lp_keep (P := fun m => m = (0 : Int32)) (s := (0 : Int32)) (f := fun w m => if ¬ I 12 w = 0 then m else if m < I 13 w then I 13 w else m) rfl 27 (fun i t hi ht => ?_)
    show (if ¬ I 12 i = 0 then t else if t < I 13 i then I 13 i else t) = 0
    split
    · exact ht
    · rename_i h
      have h2 : J 3 i = 0 := by rw [← R.fr i hi]; exact Decidable.of_not_not h
      rw [R.mn i hi, R.mn0 i hi h2, ht]
      rfl
  · refine lp_eq 27 (fun i t hi => ?_)
    show (if ¬ I 12 i = x then t else if t < I 13 i then I 13 i else t) = rS1 J x i t
    unfold rS1
    rw [if_neg hx, R.fr i hi, R.mn i hi]
    by_cases h1 : J 3 i = x
    · rw [if_neg (not_not_intro h1), if_neg (not_not_intro h1)]
      by_cases h2 : J 4 i ≤ t
      · rw [if_pos h2, if_neg (show ¬ t < J 4 i from fun q => by rw [Int32.lt_iff_toInt_lt] at q; rw [Int32.le_iff_toInt_le] at h2; omega)]
      · rw [if_neg h2, if_pos (show t < J 4 i by rw [Int32.lt_iff_toInt_lt]; rw [Int32.le_iff_toInt_le] at h2; omega)]
    · rw [if_pos h1, if_pos h1]
theorem shared_agr (R : Rel c I L J) : gOn c (aShr c fil I L).2 (rShr c J).2.2 ∧ AgI [(3, 1)] (aShr c fil I L).1 (rShr c J).2.1 (rShr c J).1 := by
  have hs := snd_eq R
  unfold aShr rShr
  rw [hs]
  cases rSnd c J with
  | false =>
    rw [if_neg Bool.false_ne_true, if_neg Bool.false_ne_true]
    exact ⟨sndH_on R, by show ((3 : Nat), (1 : Int32)) ∈ _; decide⟩
  | true =>
    rw [if_pos rfl, if_pos rfl]
    refine ⟨⟨_, _, L, rfl, Rel_snd R⟩, rfl, ?_⟩
    have e : aSum c (oI c I) = lp (rSx (rSnI c J)) (c + 4) 0 := by
      unfold aSum
      refine lp_eq (c + 4) (fun i t _ => ?_)
      show t + aMost (oI c I) (nI i - 3) = rSx (rSnI c J) i t
      unfold rSx xI
      rw [most_agr (Rel_snd R)]
    rw [e]
end AGS
