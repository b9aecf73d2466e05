/-! Labellings under limits: lowering keeps above every solution. -/
/-- C a b k: the label of a is at most that of b and k more; 0 is what lies outside -/
def Sol (C : Nat → Nat → Int → Prop) (c : Nat) (top : Int) (g : Nat → Int) : Prop := g 0 = 0 ∧ (∀ a, 1 ≤ a → a ≤ c → -6 ≤ g a ∧ g a ≤ top) ∧ ∀ a b k, C a b k → g a ≤ g b + k
/-- f lies above every solution -/
def Abv (C : Nat → Nat → Int → Prop) (c : Nat) (top : Int) (f : Nat → Int) : Prop := ∀ g, Sol C c top g → ∀ a, a ≤ c → g a ≤ f a
theorem Abv_low {C : Nat → Nat → Int → Prop} {c : Nat} {top : Int} {f f2 : Nat → Int} {a b : Nat} {k : Int} (h : Abv C c top f) (hC : C a b k) (hb : b ≤ c) (h2 : ∀ j, j ≤ c → f2 j = if j = a then (if f a ≤ f b + k then f a else f b + k) else f j) : Abv C c top f2 := fun g hg j hj => by
  rw [h2 j hj]
  by_cases e : j = a
  · rw [if_pos e]
    subst e
    have h1 := h g hg j hj
    have h3 := h g hg b hb
    have h4 := hg.2.2 j b k hC
    split <;> omega
  · rw [if_neg e]
    exact h g hg j hj
/-- below the least label: no solution -/
theorem Abv_no {C : Nat → Nat → Int → Prop} {c : Nat} {top : Int} {f : Nat → Int} (h : Abv C c top f) {a : Nat} (ha : a ≤ c) (hlow : (1 ≤ a ∧ f a < -6) ∨ (a = 0 ∧ f a < 0)) : ∀ g, ¬ Sol C c top g := fun g hg => by
  have h1 := h g hg a ha
  rcases hlow with ⟨a1, l⟩ | ⟨rfl, l⟩
  · have := (hg.2.1 a a1 ha).1; omega
  · have := hg.1; omega
/-- two solutions above every solution are the same -/
theorem Abv_eq {C : Nat → Nat → Int → Prop} {c : Nat} {top : Int} {f f2 : Nat → Int} (h : Abv C c top f) (h2 : Abv C c top f2) (s : Sol C c top f) (s2 : Sol C c top f2) : ∀ a, a ≤ c → f a = f2 a := fun a ha => by
  have := h f2 s2 a ha
  have := h2 f s a ha
  omega
theorem Sol_top {C : Nat → Nat → Int → Prop} {c : Nat} {top : Int} {f : Nat → Int} (h0 : f 0 = 0) (hf : ∀ a, 1 ≤ a → a ≤ c → f a = top) : Abv C c top f := fun g hg a ha => by
  by_cases e : a = 0
  · subst e; rw [h0, hg.1]; exact Int.le_refl _
  · rw [hf a (by omega) ha]; exact (hg.2.1 a (by omega) ha).2
/-- looser limits keep solutions -/
theorem Sol_mono {C C2 : Nat → Nat → Int → Prop} {c : Nat} {top : Int} {g : Nat → Int} (h : ∀ a b k, C2 a b k → C a b k) (hg : Sol C c top g) : Sol C2 c top g := ⟨hg.1, hg.2.1, fun a b k hC => hg.2.2 a b k (h a b k hC)⟩
