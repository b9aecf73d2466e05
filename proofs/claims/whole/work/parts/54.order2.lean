/-! The order of the gates: every gate once, each behind those it waits for. -/
def oInv (c : Nat) (dep : Nat → Nat → Prop) (s : oS) : Prop := (∀ a, a < s.2.2 → ∃ γ, 1 ≤ γ ∧ γ ≤ c ∧ s.2.1 a = nI γ ∧ ¬ s.1 γ = 0) ∧ (∀ γ, 1 ≤ γ → γ ≤ c → ¬ s.1 γ = 0 → ∃ a, a < s.2.2 ∧ s.2.1 a = nI γ) ∧ (∀ a b, a < s.2.2 → b < s.2.2 → s.2.1 a = s.2.1 b → a = b) ∧ (∀ a γ, a < s.2.2 → s.2.1 a = nI γ → 1 ≤ γ → γ ≤ c → ∀ δ, dep γ δ → ∃ b, b < a ∧ s.2.1 b = nI δ)
section OIN
variable {c : Nat} {dep : Nat → Nat → Prop} {rd : (Nat → Int32) → Nat → Bool}
theorem oInv_step (hc : c ≤ 12) (hrd : ∀ P γ, rd P γ = true → 1 ≤ γ → γ ≤ c → ∀ δ, dep γ δ → 1 ≤ δ ∧ δ ≤ c ∧ ¬ P δ = 0) {s : oS} {g : Nat} (g1 : 1 ≤ g) (g2 : g ≤ c) (h : oInv c dep s) : oInv c dep (oStep rd g s) := by
  obtain ⟨h1, h2, h3, h4⟩ := h
  unfold oStep
  by_cases q1 : s.1 g = 0
  · rw [if_pos q1]
    by_cases q2 : rd s.1 g = true
    · rw [if_pos q2]
      have hold : ∀ a, a < s.2.2 → upd s.2.1 s.2.2 (nI g) a = s.2.1 a := fun a ha => pk_un (by omega)
      have hnew : upd s.2.1 s.2.2 (nI g) s.2.2 = nI g := pk_us
      have hng : ∀ a, a < s.2.2 → ¬ s.2.1 a = nI g := fun a ha e => by
        obtain ⟨γ, γ1, γ2, e2, e3⟩ := h1 a ha
        rw [e2] at e
        have : γ = g := (nI_eq (by omega) (by omega)).mp e
        subst this
        exact e3 q1
      refine ⟨?_, ?_, ?_, ?_⟩
      · intro a ha
        show ∃ γ, 1 ≤ γ ∧ γ ≤ c ∧ upd s.2.1 s.2.2 (nI g) a = nI γ ∧ ¬ upd s.1 g 1 γ = 0
        by_cases e : a = s.2.2
        · subst e
          refine ⟨g, g1, g2, hnew, ?_⟩
          rw [pk_us]; decide
        · have ha : a < s.2.2 := by have : a < s.2.2 + 1 := ha; omega
          obtain ⟨γ, γ1, γ2, e2, e3⟩ := h1 a ha
          refine ⟨γ, γ1, γ2, by rw [hold a ha]; exact e2, ?_⟩
          by_cases e4 : γ = g
          · subst e4; exact absurd q1 e3
          · rw [pk_un e4]; exact e3
      · intro γ γ1 γ2 hn
        show ∃ a, a < s.2.2 + 1 ∧ upd s.2.1 s.2.2 (nI g) a = nI γ
        have hn : ¬ upd s.1 g 1 γ = 0 := hn
        by_cases e : γ = g
        · subst e; exact ⟨s.2.2, by omega, hnew⟩
        · rw [pk_un e] at hn
          obtain ⟨a, ha, e2⟩ := h2 γ γ1 γ2 hn
          exact ⟨a, by omega, by rw [hold a ha]; exact e2⟩
      · intro a b ha hb e
        have ha : a < s.2.2 + 1 := ha
        have hb : b < s.2.2 + 1 := hb
        have e : upd s.2.1 s.2.2 (nI g) a = upd s.2.1 s.2.2 (nI g) b := e
        by_cases ea : a = s.2.2
        · by_cases eb : b = s.2.2
          · omega
          · subst ea
            rw [hnew, hold b (by omega)] at e
            exact absurd e.symm (hng b (by omega))
        · by_cases eb : b = s.2.2
          · subst eb
            rw [hnew, hold a (by omega)] at e
            exact absurd e (hng a (by omega))
          · rw [hold a (by omega), hold b (by omega)] at e
            exact h3 a b (by omega) (by omega) e
      · intro a γ ha e γ1 γ2 δ hd
        have ha : a < s.2.2 + 1 := ha
        have e : upd s.2.1 s.2.2 (nI g) a = nI γ := e
        show ∃ b, b < a ∧ upd s.2.1 s.2.2 (nI g) b = nI δ
        by_cases ea : a = s.2.2
        · subst ea
          rw [hnew] at e
          have : g = γ := (nI_eq (by omega) (by omega)).mp e
          subst this
          obtain ⟨d1, d2, d3⟩ := hrd s.1 g q2 g1 g2 δ hd
          obtain ⟨b, hb, e2⟩ := h2 δ d1 d2 d3
          exact ⟨b, hb, by rw [hold b hb]; exact e2⟩
        · rw [hold a (by omega)] at e
          obtain ⟨b, hb, e2⟩ := h4 a γ (by omega) e γ1 γ2 δ hd
          exact ⟨b, hb, by rw [hold b (by omega)]; exact e2⟩
    · rw [if_neg q2]; exact ⟨h1, h2, h3, h4⟩
  · rw [if_neg q1]; exact ⟨h1, h2, h3, h4⟩
theorem oInv_run (hc : c ≤ 12) (hrd : ∀ P γ, rd P γ = true → 1 ≤ γ → γ ≤ c → ∀ δ, dep γ δ → 1 ≤ δ ∧ δ ≤ c ∧ ¬ P δ = 0) : ∀ (n : Nat) (s : oS), oInv c dep s → oInv c dep (oRun rd c n s)
  | 0, _, h => h
  | n + 1, s, h => by
    unfold oRun
    split
    · refine oInv_run hc hrd n _ ?_
      unfold oRound
      exact lp_keep (P := fun s => oInv c dep s) h c (fun i t hi ht => oInv_step hc hrd (by omega) (by omega) ht)
    · exact h
end OIN
/-- gate γ has a wire without registers from gate δ -/
def depW (c : Nat) (J : Nat → Nat → Int32) (γ δ : Nat) : Prop := 1 ≤ δ ∧ δ ≤ c ∧ ∃ k, k < pn (J 1) γ ∧ J 4 (2 * γ - 2 + k) = 0 ∧ J 3 (2 * γ - 2 + k) = nI δ
theorem dep_rdy {c : Nat} {I : Nat → Nat → Int32} {L : Nat → Nat → Int64} {J : Nat → Nat → Int32} (R : Rel c I L J) (P : Nat → Int32) (γ : Nat) (h : rdyK (I 10) (I 12) (I 13) P γ = true) (γ1 : 1 ≤ γ) (γ2 : γ ≤ c) (δ : Nat) (hd : depW c J γ δ) : 1 ≤ δ ∧ δ ≤ c ∧ ¬ P δ = 0 := by
  have hc := R.hc
  obtain ⟨d1, d2, k, hk, e4, e3⟩ := hd
  refine ⟨d1, d2, fun hP => ?_⟩
  have hp := pn_le (J 1) γ
  have h1 := allB_iff.mp h k (by rw [pn_eq (R.kd γ (by omega))]; exact hk)
  have hb : bh (I 12) (2 * γ - 2 + k) = nI δ := by
    unfold bh
    rw [R.fr _ (by omega), e3, if_neg (nI_pos (by omega))]
  unfold rdyB at h1
  rw [R.mn _ (by omega), e4, hb, nI_clamp (by omega), hP] at h1
  have : ¬ nI δ = 0 := fun q => by have := (nI_eq (b := 0) (by omega) (by decide)).mp q; omega
  rw [decide_eq_true this] at h1
  exact absurd h1 (by decide)
/-- the order, as numbers: pl a the gate at place a, at g the place of gate g -/
theorem order_is {c : Nat} {I : Nat → Nat → Int32} {L : Nat → Nat → Int64} {J : Nat → Nat → Int32} (R : Rel c I L J) (hs : sndB c I = true) : ∃ pl : Nat → Nat, (∀ a, a < c → 1 ≤ pl a ∧ pl a ≤ c ∧ oI c I 17 a = nI (pl a)) ∧ (∀ g, 1 ≤ g → g ≤ c → ∃ a, a < c ∧ pl a = g) ∧ (∀ a b, a < c → b < c → pl a = pl b → a = b) ∧ (∀ a δ, a < c → depW c J (pl a) δ → ∃ b, b < a ∧ pl b = δ) := by
  have hc := R.hc
  have hz : ∀ g, 1 ≤ g → g ≤ c → zer c (I 18) g = 0 := fun g g1 g2 => zer_0 c g g1 g2
  have hi : oInv c (depW c J) (oFin c I) := oInv_run hc (fun P γ h γ1 γ2 δ hd => dep_rdy R P γ h γ1 γ2 δ hd) c _ ⟨fun a ha => absurd ha (Nat.not_lt_zero _), fun γ γ1 γ2 h => absurd (hz γ γ1 γ2) h, fun a b ha => absurd ha (Nat.not_lt_zero _), fun a γ ha => absurd ha (Nat.not_lt_zero _)⟩
  have hf : (oFin c I).2.2 = c := by
    unfold sndB at hs
    rw [Bool.and_eq_true] at hs
    exact of_decide_eq_true hs.2
  have hall : ∀ g, 1 ≤ g → g ≤ c → ¬ (oFin c I).1 g = 0 := cntP_all (by rw [← oFin_inv]; exact hf)
  obtain ⟨h1, h2, h3, h4⟩ := hi
  rw [hf] at h1 h2 h3 h4
  have e17 : oI c I 17 = (oFin c I).2.1 := rfl
  have hpl : ∀ a, a < c → 1 ≤ ((oFin c I).2.1 a).toNatClampNeg ∧ ((oFin c I).2.1 a).toNatClampNeg ≤ c ∧ (oFin c I).2.1 a = nI ((oFin c I).2.1 a).toNatClampNeg := by
    intro a ha
    obtain ⟨γ, γ1, γ2, e, _⟩ := h1 a ha
    rw [e, nI_clamp (by omega)]
    exact ⟨γ1, γ2, rfl⟩
  refine ⟨fun a => ((oFin c I).2.1 a).toNatClampNeg, ?_, ?_, ?_, ?_⟩
  · intro a ha
    rw [e17]
    exact hpl a ha
  · intro g g1 g2
    obtain ⟨a, ha, e⟩ := h2 g g1 g2 (hall g g1 g2)
    refine ⟨a, ha, ?_⟩
    show ((oFin c I).2.1 a).toNatClampNeg = g
    rw [e, nI_clamp (by omega)]
  · intro a b ha hb e
    have e : ((oFin c I).2.1 a).toNatClampNeg = ((oFin c I).2.1 b).toNatClampNeg := e
    refine h3 a b ha hb ?_
    rw [(hpl a ha).2.2, (hpl b hb).2.2, e]
  · intro a δ ha hd
    obtain ⟨p1, p2, p3⟩ := hpl a ha
    obtain ⟨b, hb, e⟩ := h4 a _ ha p3 p1 p2 δ hd
    refine ⟨b, hb, ?_⟩
    show ((oFin c I).2.1 b).toNatClampNeg = δ
    have := hd.2.1
    rw [e, nI_clamp (by omega)]
