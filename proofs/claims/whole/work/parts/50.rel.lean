/-! What ties the class's cells to the reference's; both answer the same of soundness. -/
/-- class: c gates, cells I and L; reference: cells J -/
def Rel (c : Nat) (I : Nat → Nat → Int32) (L : Nat → Nat → Int64) (J : Nat → Nat → Int32) : Prop := (c ≤ 12) ∧ (∀ g, g < 13 → I 10 g = J 1 g) ∧ (∀ g, g < 13 → ∃ n, n ≤ 4 ∧ J 1 g = nI n) ∧ (∀ g, g < 13 → I 11 g = J 2 g) ∧ (∀ g, g < 13 → ∃ n, n ≤ 50 ∧ J 2 g = nI n) ∧ (∀ w, w < 27 → I 12 w = J 3 w) ∧ (∀ w, w < 27 → (J 3 w = -1 ∨ J 3 w = -2 ∨ J 3 w = -3) ∨ ∃ g, g ≤ c ∧ J 3 w = nI g) ∧ (∀ w, w < 24 → c < gbf w → J 3 w = 0) ∧ (∀ g, 1 ≤ g → g ≤ c → pn (J 1) g = 1 → J 3 (2 * g - 1) = 0) ∧ (∀ w, w < 27 → I 13 w = J 4 w) ∧ (∀ w, w < 27 → ∃ m, m ≤ 20 ∧ J 4 w = nI m) ∧ (∀ w, w < 27 → J 3 w = 0 → J 4 w = 0) ∧ (∀ w, w < 27 → I 65 w = J 4 w) ∧ (∀ w k, w < 27 → k < (J 4 w).toNatClampNeg → bRd (L 14 w) (nI k) = J 5 (40 * w + k) ∧ ∃ n, n ≤ 2 ∧ J 5 (40 * w + k) = nI n) ∧ (∀ w k, w < 27 → k < (J 4 w).toNatClampNeg → bRd (L 66 w) (nI k) = J 6 (40 * w + k) ∧ ∃ n, n ≤ 2 ∧ J 6 (40 * w + k) = nI n) ∧ (∀ g, 1 ≤ g → g < 13 → I 9 g = J 9 g)
section RELP
variable {c : Nat} {I : Nat → Nat → Int32} {L : Nat → Nat → Int64} {J : Nat → Nat → Int32}
theorem Rel.hc (R : Rel c I L J) : c ≤ 12 := R.1
theorem Rel.kd (R : Rel c I L J) : ∀ g, g < 13 → I 10 g = J 1 g := R.2.1
theorem Rel.kdb (R : Rel c I L J) : ∀ g, g < 13 → ∃ n, n ≤ 4 ∧ J 1 g = nI n := R.2.2.1
theorem Rel.ds (R : Rel c I L J) : ∀ g, g < 13 → I 11 g = J 2 g := R.2.2.2.1
theorem Rel.dsb (R : Rel c I L J) : ∀ g, g < 13 → ∃ n, n ≤ 50 ∧ J 2 g = nI n := R.2.2.2.2.1
theorem Rel.fr (R : Rel c I L J) : ∀ w, w < 27 → I 12 w = J 3 w := R.2.2.2.2.2.1
theorem Rel.frb (R : Rel c I L J) : ∀ w, w < 27 → (J 3 w = -1 ∨ J 3 w = -2 ∨ J 3 w = -3) ∨ ∃ g, g ≤ c ∧ J 3 w = nI g := R.2.2.2.2.2.2.1
theorem Rel.frs (R : Rel c I L J) : ∀ w, w < 24 → c < gbf w → J 3 w = 0 := R.2.2.2.2.2.2.2.1
theorem Rel.frp (R : Rel c I L J) : ∀ g, 1 ≤ g → g ≤ c → pn (J 1) g = 1 → J 3 (2 * g - 1) = 0 := R.2.2.2.2.2.2.2.2.1
theorem Rel.mn (R : Rel c I L J) : ∀ w, w < 27 → I 13 w = J 4 w := R.2.2.2.2.2.2.2.2.2.1
theorem Rel.mnb (R : Rel c I L J) : ∀ w, w < 27 → ∃ m, m ≤ 20 ∧ J 4 w = nI m := R.2.2.2.2.2.2.2.2.2.2.1
theorem Rel.mn0 (R : Rel c I L J) : ∀ w, w < 27 → J 3 w = 0 → J 4 w = 0 := R.2.2.2.2.2.2.2.2.2.2.2.1
theorem Rel.rn (R : Rel c I L J) : ∀ w, w < 27 → I 65 w = J 4 w := R.2.2.2.2.2.2.2.2.2.2.2.2.1
theorem Rel.vl (R : Rel c I L J) : ∀ w k, w < 27 → k < (J 4 w).toNatClampNeg → bRd (L 14 w) (nI k) = J 5 (40 * w + k) ∧ ∃ n, n ≤ 2 ∧ J 5 (40 * w + k) = nI n := R.2.2.2.2.2.2.2.2.2.2.2.2.2.1
theorem Rel.rv (R : Rel c I L J) : ∀ w k, w < 27 → k < (J 4 w).toNatClampNeg → bRd (L 66 w) (nI k) = J 6 (40 * w + k) ∧ ∃ n, n ≤ 2 ∧ J 6 (40 * w + k) = nI n := R.2.2.2.2.2.2.2.2.2.2.2.2.2.2.1
theorem Rel.told (R : Rel c I L J) : ∀ g, 1 ≤ g → g < 13 → I 9 g = J 9 g := R.2.2.2.2.2.2.2.2.2.2.2.2.2.2.2
end RELP
theorem i32_neg_le {x : Int32} (h : x = -1 ∨ x = -2 ∨ x = -3) : x < 0 ∧ x ≤ 0 ∧ ¬ x = 0 := by
  rcases h with h | h | h <;> subst h <;> decide
theorem Rel_bh {c : Nat} {I : Nat → Nat → Int32} {L : Nat → Nat → Int64} {J : Nat → Nat → Int32} (R : Rel c I L J) {w : Nat} (hw : w < 27) : ∃ g, g ≤ c ∧ bh (I 12) w = nI g ∧ (g = 0 ↔ J 3 w ≤ 0) ∧ (1 ≤ g → J 3 w = nI g) := by
  have hc := R.hc
  unfold bh
  rw [R.fr w hw]
  rcases R.frb w hw with h | ⟨g, hg, e⟩
  · obtain ⟨h1, h2, _⟩ := i32_neg_le h
    rw [if_pos h1]
    exact ⟨0, Nat.zero_le _, rfl, ⟨fun _ => h2, fun _ => rfl⟩, fun h => absurd h (by omega)⟩
  · rw [e, if_neg (nI_pos (by omega))]
    refine ⟨g, hg, rfl, ⟨fun h => by subst h; decide, fun h => ?_⟩, fun _ => rfl⟩
    by_cases e0 : g = 0
    · exact e0
    · exact absurd h (nI_ge (b := g) (a := 0) (by omega) (by omega))
theorem pn_eq {kd kd2 : Nat → Int32} {g : Nat} (h : kd g = kd2 g) : pn kd g = pn kd2 g := by unfold pn; rw [h]
theorem allB_eq {n : Nat} {p q : Nat → Bool} (h : ∀ j, j < n → p j = q j) : allB n p = allB n q := by
  rw [Bool.eq_iff_iff, allB_iff, allB_iff]
  exact ⟨fun a j hj => by rw [← h j hj]; exact a j hj, fun a j hj => by rw [h j hj]; exact a j hj⟩
theorem exB_eq {n : Nat} {p q : Nat → Bool} (h : ∀ j, j < n → p j = q j) : exB n p = exB n q := by
  rw [Bool.eq_iff_iff, exB_iff, exB_iff]
  exact ⟨fun ⟨j, hj, a⟩ => ⟨j, hj, by rw [← h j hj]; exact a⟩, fun ⟨j, hj, a⟩ => ⟨j, hj, by rw [h j hj]; exact a⟩⟩
theorem exB_not (n : Nat) (p : Nat → Bool) : allB n (fun j => !p j) = !exB n p := by
  induction n with
  | zero => rfl
  | succ n ih => rw [allB_succ, exB_succ, ih]; cases exB n p <;> rfl
section SND
variable {c : Nat} {I : Nat → Nat → Int32} {L : Nat → Nat → Int64} {J : Nat → Nat → Int32}
/-- placed in the class, out in the reference -/
def oAg (c : Nat) (P f : Nat → Int32) : Prop := ∀ g, 1 ≤ g → g ≤ c → P g = f g ∧ (f g = 0 ∨ f g = 1)
theorem rdy_eq (R : Rel c I L J) {P f : Nat → Int32} (h : oAg c P f) {w : Nat} (hw : w < 27) : rdyB (I 12) (I 13) P w = !rwt J f w := by
  have hc := R.hc
  obtain ⟨g, hg, eb, e0, e1⟩ := Rel_bh R hw
  unfold rdyB rwt
  rw [eb, R.mn w hw, nI_clamp (by omega)]
  by_cases hg0 : g = 0
  · rw [decide_eq_false (p := ¬ nI g = 0) (fun q => q (by rw [hg0]; rfl)), decide_eq_false (p := ¬ J 3 w ≤ 0 ∧ _) (fun q => q.1 (e0.mp hg0))]
    cases decide (J 4 w = 0) <;> rfl
  · have h3 := e1 (by omega)
    have hp : ¬ J 3 w ≤ 0 := fun q => hg0 (e0.mpr q)
    rw [h3, nI_clamp (by omega), (h g (by omega) hg).1]
    have hn : ¬ nI g = 0 := fun q => hg0 ((nI_eq (b := 0) (by omega) (by decide)).mp q)
    have hle : ¬ nI g ≤ 0 := by rw [← h3]; exact hp
    by_cases q1 : J 4 w = 0
    · by_cases q2 : f g = 0
      · rw [decide_eq_true q1, decide_eq_true hn, decide_eq_true q2, decide_eq_true (p := ¬ nI g ≤ 0 ∧ J 4 w = 0 ∧ f g = 0) ⟨hle, q1, q2⟩]; rfl
      · rw [decide_eq_false (p := f g = 0) q2, decide_eq_false (p := ¬ nI g ≤ 0 ∧ J 4 w = 0 ∧ f g = 0) (fun q => q2 q.2.2), Bool.and_false, Bool.and_false]
    · rw [decide_eq_false q1, decide_eq_false (p := ¬ nI g ≤ 0 ∧ J 4 w = 0 ∧ f g = 0) (fun q => q1 q.2.1)]; rfl
theorem rdyK_eq (R : Rel c I L J) {P f : Nat → Int32} (h : oAg c P f) {u : Nat} (hu : u < c) : rdyK (I 10) (I 12) (I 13) P (u + 1) = !rwts J f u := by
  have hc := R.hc
  unfold rdyK rwts
  rw [pn_eq (R.kd (u + 1) (by omega)), ← exB_not]
  have hp := pn_le (J 1) (u + 1)
  refine allB_eq (fun k hk => ?_)
  rw [show 2 * (u + 1) - 2 + k = 2 * u + k from by omega]
  exact rdy_eq R h (by omega)
theorem oAg_step (R : Rel c I L J) {s : oS} {f : Nat → Int32} (h : oAg c s.1 f) {u : Nat} (hu : u < c) : oAg c (oStep (rdyK (I 10) (I 12) (I 13)) (u + 1) s).1 (rLg J u f) := by
  have hr := rdyK_eq R h hu
  obtain ⟨h1, h2⟩ := h (u + 1) (by omega) (by omega)
  unfold oStep rLg
  rw [hr]
  intro g g1 g2
  by_cases e : g = u + 1
  · subst e
    rw [pk_us]
    cases hw : rwts J f u with
    | true =>
      rw [if_pos (rfl : true = true), show (!true) = false from rfl, if_neg Bool.false_ne_true]
      rw [show (if s.1 (u + 1) = 0 then s else s) = s from by split <;> rfl]
      exact ⟨h1, h2⟩
    | false =>
      rw [if_neg Bool.false_ne_true, show (!false) = true from rfl, if_pos (rfl : true = true)]
      by_cases q : s.1 (u + 1) = 0
      · rw [if_pos q]
        exact ⟨pk_us, Or.inr rfl⟩
      · rw [if_neg q]
        refine ⟨?_, Or.inr rfl⟩
        rcases h2 with h2 | h2
        · exact absurd (h1.trans h2) q
        · exact h1.trans h2
  · rw [pk_un e]
    have h3 := h g g1 g2
    split
    · split
      · show upd s.1 (u + 1) 1 g = f g ∧ _
        rw [pk_un e]
        exact h3
      · exact h3
    · exact h3
theorem oAg_round (R : Rel c I L J) {s : oS} {f : Nat → Int32} (h : oAg c s.1 f) : ∀ i, i ≤ c → oAg c (lp (fun i => oStep (rdyK (I 10) (I 12) (I 13)) (i + 1)) i s).1 (lp (rLg J) i f)
  | 0, _ => h
  | i + 1, hi => oAg_step R (oAg_round R h i (by omega)) hi
theorem lp_const {α : Type} (F : Nat → α → α) (hF : ∀ i j, F i = F j) (s : α) : ∀ n, lp F n (F 0 s) = F 0 (lp F n s)
  | 0 => rfl
  | n + 1 => by
    show F n (lp F n (F 0 s)) = F 0 (F n (lp F n s))
    rw [lp_const F hF s n, hF n 0]
theorem oAg_full {P f : Nat → Int32} (h : oAg c P f) (hf : ∀ g, 1 ≤ g → g ≤ c → ¬ P g = 0) : ∀ i, i ≤ c → oAg c P (lp (rLg J) i f)
  | 0, _ => h
  | i + 1, hi => by
    have ih := oAg_full h hf i (by omega)
    show oAg c P (rLg J i (lp (rLg J) i f))
    unfold rLg
    intro g g1 g2
    by_cases e : g = i + 1
    · subst e
      rw [pk_us]
      have h3 := ih (i + 1) g1 g2
      rcases h3 with ⟨h3, h4 | h4⟩
      · exact absurd (h3.trans h4) (hf _ g1 g2)
      · split
        · exact ⟨h3, Or.inr h4⟩
        · exact ⟨h3.trans h4, Or.inr rfl⟩
    · rw [pk_un e]
      exact ih g g1 g2
theorem oAg_run (R : Rel c I L J) : ∀ (n : Nat) (s : oS) (f : Nat → Int32), s.2.2 = cntP s.1 c → oAg c s.1 f → oAg c (oRun (rdyK (I 10) (I 12) (I 13)) c n s).1 (lp (rLr c J) n f)
  | 0, _, _, _, h => h
  | n + 1, s, f, hi, h => by
    have e : lp (rLr c J) (n + 1) f = lp (rLr c J) n (rLr c J 0 f) := (lp_const (rLr c J) (fun _ _ => rfl) f n).symm
    rw [e]
    unfold oRun
    by_cases q : s.2.2 < c
    · rw [if_pos q]
      exact oAg_run R n _ _ (oRound_inv hi) (oAg_round R h c (Nat.le_refl _))
    · rw [if_neg q]
      have hle := cntP_le s.1 c
      have hall := cntP_all (P := s.1) (n := c) (by omega)
      have hr : ∀ n f, oAg c s.1 f → oAg c s.1 (lp (rLr c J) n f) := by
        intro n
        induction n with
        | zero => exact fun _ h => h
        | succ n ih => exact fun f h => oAg_full (ih f h) hall c (Nat.le_refl _)
      exact hr n _ (oAg_full h hall c (Nat.le_refl _))
theorem oAg_fin (R : Rel c I L J) : oAg c (oFin c I).1 (rOut c J) := by
  unfold oFin rOut
  have hz : ∀ g, 1 ≤ g → g ≤ c → zer c (I 18) g = 0 := fun g g1 g2 => zer_0 c g g1 g2
  refine oAg_run R c _ _ ?_ ?_
  · show (0 : Nat) = cntP (zer c (I 18)) c
    exact (cntP_0 c hz).symm
  · intro g g1 g2
    have e : rLo0 c (J 13) g = 0 := zer_0 c g g1 g2
    rw [e]
    exact ⟨hz g g1 g2, Or.inl rfl⟩
theorem cntP_of {P : Nat → Int32} : ∀ n, (∀ g, 1 ≤ g → g ≤ n → ¬ P g = 0) → cntP P n = n
  | 0, _ => rfl
  | n + 1, h => by
    unfold cntP
    rw [cntP_of n (fun g g1 g2 => h g g1 (by omega)), if_neg (h (n + 1) (by omega) (Nat.le_refl _))]
theorem cmp_eq (R : Rel c I L J) : isCompl c (I 10) (I 12) = rCmp c J := by
  have hc := R.hc
  unfold isCompl rCmp
  refine allB_eq (fun u hu => ?_)
  rw [Bool.and_comm]
  have e1 : exB 27 (fun j => decide (I 12 j = nI (u + 1))) = rDrv J u := exB_eq (fun j hj => by rw [R.fr j hj])
  have e2 : allPins (I 10) (I 12) (u + 1) = rPns J u := by
    unfold allPins rPns
    rw [pn_eq (R.kd (u + 1) (by omega))]
    have hp := pn_le (J 1) (u + 1)
    exact allB_eq (fun k hk => by rw [show 2 * (u + 1) - 2 + k = 2 * u + k from by omega, R.fr (2 * u + k) (by omega)])
  rw [e1, e2]
/-- both find the same circuits sound -/
theorem snd_eq (R : Rel c I L J) : sndB c I = rSnd c J := by
  unfold sndB rSnd
  rw [cmp_eq R]
  congr 1
  have h := oAg_fin R
  rw [oFin_inv]
  unfold rLoop
  rw [← exB_not, Bool.eq_iff_iff, allB_iff, decide_eq_true_iff]
  constructor
  · intro e u hu
    have h1 := cntP_all e (u + 1) (by omega) (by omega)
    rw [(h (u + 1) (by omega) (by omega)).1] at h1
    rw [decide_eq_false h1]
    rfl
  · intro e
    refine cntP_of c (fun g g1 g2 q => ?_)
    have h1 := e (g - 1) (by omega)
    rw [show g - 1 + 1 = g from by omega] at h1
    rw [(h g g1 g2).1] at q
    rw [decide_eq_true q] at h1
    cases h1
end SND
