/-! Sums of labels; lowering, step by step, in the reference. -/
def sI (f : Nat → Int) : Nat → Int
  | 0 => 0
  | n + 1 => sI f n + f (n + 1)
theorem sI_le {f g : Nat → Int} : ∀ n, (∀ a, 1 ≤ a → a ≤ n → f a ≤ g a) → sI f n ≤ sI g n
  | 0, _ => Int.le_refl _
  | n + 1, h => by
    have h1 := sI_le n (fun a a1 a2 => h a a1 (by omega))
    have h2 := h (n + 1) (by omega) (Nat.le_refl _)
    show sI f n + f (n + 1) ≤ sI g n + g (n + 1)
    omega
theorem sI_lt {f g : Nat → Int} : ∀ n, (∀ a, 1 ≤ a → a ≤ n → f a ≤ g a) → (∃ a, 1 ≤ a ∧ a ≤ n ∧ f a < g a) → sI f n < sI g n
  | 0, _, h => by obtain ⟨a, a1, a2, _⟩ := h; omega
  | n + 1, h, ⟨a, a1, a2, l⟩ => by
    have h1 := sI_le n (fun a a1 a2 => h a a1 (by omega))
    have h2 := h (n + 1) (by omega) (Nat.le_refl _)
    show sI f n + f (n + 1) < sI g n + g (n + 1)
    by_cases e : a = n + 1
    · subst e; omega
    · have h3 := sI_lt n (fun a a1 a2 => h a a1 (by omega)) ⟨a, a1, by omega, l⟩
      omega
theorem sI_eq {f g : Nat → Int} {n : Nat} (h : ∀ a, 1 ≤ a → a ≤ n → f a ≤ g a) (e : sI g n ≤ sI f n) : ∀ a, 1 ≤ a → a ≤ n → f a = g a := fun a a1 a2 => by
  by_cases l : f a < g a
  · have := sI_lt n h ⟨a, a1, a2, l⟩; omega
  · have := h a a1 a2; omega
theorem sI_lo {f : Nat → Int} : ∀ n, (∀ a, 1 ≤ a → a ≤ n → -6 ≤ f a) → -6 * (n : Int) ≤ sI f n
  | 0, _ => Int.le_refl _
  | n + 1, h => by
    have h1 := sI_lo n (fun a a1 a2 => h a a1 (by omega))
    have h2 := h (n + 1) (by omega) (Nat.le_refl _)
    show _ ≤ sI f n + f (n + 1)
    omega
theorem sI_hi {f : Nat → Int} : ∀ n, (∀ a, 1 ≤ a → a ≤ n → f a ≤ 6) → sI f n ≤ 6 * (n : Int)
  | 0, _ => Int.le_refl _
  | n + 1, h => by
    have h1 := sI_hi n (fun a a1 a2 => h a a1 (by omega))
    have h2 := h (n + 1) (by omega) (Nat.le_refl _)
    show sI f n + f (n + 1) ≤ _
    omega
theorem sI_np {f : Nat → Int} : ∀ n, (∀ a, 1 ≤ a → a ≤ n → f a ≤ 0) → sI f n ≤ 0
  | 0, _ => Int.le_refl _
  | n + 1, h => by
    have h1 := sI_np n (fun a a1 a2 => h a a1 (by omega))
    have h2 := h (n + 1) (by omega) (Nat.le_refl _)
    show sI f n + f (n + 1) ≤ _
    omega
theorem sI_ext {f g : Nat → Int} : ∀ n, (∀ a, 1 ≤ a → a ≤ n → f a = g a) → sI f n = sI g n
  | 0, _ => rfl
  | n + 1, h => by
    show sI f n + f (n + 1) = sI g n + g (n + 1)
    rw [sI_ext n (fun a a1 a2 => h a a1 (by omega)), h (n + 1) (by omega) (Nat.le_refl _)]
/-- labels as numbers; what lies outside has 0 -/
def iv (f : Nat → Int32) (a : Nat) : Int := if a = 0 then 0 else (f a).toInt
theorem iv_0 (f : Nat → Int32) : iv f 0 = 0 := rfl
theorem iv_p {f : Nat → Int32} {a : Nat} (h : 1 ≤ a) : iv f a = (f a).toInt := if_neg (by omega)
/-- labels within -6 .. 6 -/
def lB (c : Nat) (f : Nat → Int32) : Prop := ∀ a, 1 ≤ a → a ≤ c → -6 ≤ (f a).toInt ∧ (f a).toInt ≤ 6
theorem iv_b {c : Nat} {f : Nat → Int32} (h : lB c f) {a : Nat} (ha : a ≤ c) : -6 ≤ iv f a ∧ iv f a ≤ 6 := by
  by_cases e : a = 0
  · subst e; rw [iv_0]; omega
  · rw [iv_p (by omega)]; exact h a (by omega) ha
def RI (C : Nat → Nat → Int → Prop) (c : Nat) (top : Int) (s : rLS) : Prop := (s.2 = true → lB c s.1 ∧ Abv C c top (iv s.1)) ∧ (s.2 = false → ∀ g, ¬ Sol C c top g)
def RT (c : Nat) (D : Nat → Nat → Int → Prop) (s t : rLS) : Prop := t.2 = true → s.2 = true ∧ (∀ a, 1 ≤ a → a ≤ c → (t.1 a).toInt ≤ (s.1 a).toInt) ∧ ((∀ a, 1 ≤ a → a ≤ c → t.1 a = s.1 a) → ∀ a b k, D a b k → a ≤ c → b ≤ c → iv s.1 a ≤ iv s.1 b + k)
theorem RT_refl (c : Nat) (s : rLS) : RT c (fun _ _ _ => False) s s := fun h => ⟨h, fun _ _ _ => Int.le_refl _, fun _ _ _ _ h => h.elim⟩
theorem RT_comp {c : Nat} {D1 D2 : Nat → Nat → Int → Prop} {s t u : rLS} (h1 : RT c D1 s t) (h2 : RT c D2 t u) : RT c (fun a b k => D1 a b k ∨ D2 a b k) s u := fun hu => by
  obtain ⟨ht, le2, k2⟩ := h2 hu
  obtain ⟨hs, le1, k1⟩ := h1 ht
  refine ⟨hs, fun a a1 a2 => Int.le_trans (le2 a a1 a2) (le1 a a1 a2), fun he => ?_⟩
  have et : ∀ a, 1 ≤ a → a ≤ c → t.1 a = s.1 a := fun a a1 a2 => by
    have q1 := le1 a a1 a2
    have q2 := le2 a a1 a2
    rw [he a a1 a2] at q2
    exact Int32.toInt_inj.mp (by omega)
  have eu : ∀ a, 1 ≤ a → a ≤ c → u.1 a = t.1 a := fun a a1 a2 => by rw [he a a1 a2, et a a1 a2]
  have eiv : ∀ a, a ≤ c → iv t.1 a = iv s.1 a := fun a ha => by
    unfold iv
    by_cases e : a = 0
    · rw [if_pos e, if_pos e]
    · rw [if_neg e, if_neg e, et a (by omega) ha]
  intro a b k hD ha hb
  rcases hD with h | h
  · exact k1 et a b k h ha hb
  · rw [← eiv a ha, ← eiv b hb]; exact k2 eu a b k h ha hb
theorem RT_weak {c : Nat} {D D2 : Nat → Nat → Int → Prop} {s t : rLS} (h : RT c D s t) (hD : ∀ a b k, D2 a b k → D a b k) : RT c D2 s t := fun ht => by
  obtain ⟨h1, h2, h3⟩ := h ht
  exact ⟨h1, h2, fun he a b k q => h3 he a b k (hD a b k q)⟩
theorem R_lp {C : Nat → Nat → Int → Prop} {c : Nat} {top : Int} {f : Nat → rLS → rLS} {D : Nat → Nat → Nat → Int → Prop} {s : rLS} (hs : RI C c top s) : ∀ n, (∀ i, i < n → ∀ s, RI C c top s → RI C c top (f i s) ∧ RT c (D i) s (f i s)) → RI C c top (lp f n s) ∧ RT c (fun a b k => ∃ i, i < n ∧ D i a b k) s (lp f n s)
  | 0, _ => ⟨hs, RT_weak (RT_refl c s) (fun _ _ _ ⟨_, q, _⟩ => absurd q (Nat.not_lt_zero _))⟩
  | n + 1, h => by
    obtain ⟨r1, t1⟩ := R_lp hs n (fun i hi => h i (by omega))
    obtain ⟨r2, t2⟩ := h n (by omega) _ r1
    refine ⟨r2, RT_weak (RT_comp t1 t2) (fun a b k ⟨i, hi, q⟩ => ?_)⟩
    by_cases e : i = n
    · subst e; exact Or.inr q
    · exact Or.inl ⟨i, by omega, q⟩
theorem rLw_p {f : Nat → Int32} {a : Nat} {m : Int32} (a1 : 1 ≤ a) (ha : a ≤ 12) : rLw f (nI a) m = (upd f a (if f a ≤ m then f a else m), decide (-6 ≤ if f a ≤ m then f a else m)) := by
  have hcl : (nI a).toNatClampNeg = a := nI_clamp (by omega)
  unfold rLw
  rw [if_pos (show 0 < nI a from nI_lt (a := 0) (by omega) (by omega)), hcl]
theorem rLw_n {f : Nat → Int32} {x m : Int32} (x0 : x ≤ 0) : rLw f x m = (f, decide (0 ≤ m)) := by
  unfold rLw
  rw [if_neg (show ¬ 0 < x from fun q => by rw [Int32.lt_iff_toInt_lt] at q; rw [Int32.le_iff_toInt_le] at x0; omega)]
theorem R_al {C : Nat → Nat → Int → Prop} {c : Nat} {top : Int} {x : Int32} {m : (Nat → Int32) → Int32} {a b : Nat} {k : Int} (hx : (x ≤ 0 ∧ a = 0) ∨ (x = nI a ∧ 1 ≤ a)) (ha : a ≤ c) (hb : b ≤ c) (hc : c ≤ 12) (hC : C a b k) (hm : ∀ f, lB c f → (m f).toInt = iv f b + k) {s : rLS} (hs : RI C c top s) : RI C c top (rAl x m s) ∧ RT c (fun a2 b2 k2 => a2 = a ∧ b2 = b ∧ k2 = k) s (rAl x m s) := by
  unfold rAl
  cases h2 : s.2 with
  | false => rw [if_neg Bool.false_ne_true]; exact ⟨hs, fun q => absurd (h2.symm.trans q) Bool.false_ne_true⟩
  | true =>
    rw [if_pos rfl]
    obtain ⟨hB, hA⟩ := hs.1 h2
    have hmf := hm s.1 hB
    have bb := iv_b hB hb
    rcases hx with ⟨x0, rfl⟩ | ⟨rfl, a1⟩
    · rw [rLw_n x0]
      by_cases q : 0 ≤ m s.1
      · have q2 := q
        rw [Int32.le_iff_toInt_le, Int32.toInt_zero, hmf] at q2
        refine ⟨⟨fun _ => ⟨hB, hA⟩, fun e => absurd q (of_decide_eq_false e)⟩, fun _ => ⟨h2, fun _ _ _ => Int.le_refl _, fun _ a2 b2 k2 e _ _ => ?_⟩⟩
        rw [e.1, e.2.1, e.2.2, iv_0]; exact q2
      · have q2 := q
        rw [Int32.le_iff_toInt_le, Int32.toInt_zero, hmf] at q2
        refine ⟨⟨fun e => absurd (of_decide_eq_true e) q, fun _ g hg => ?_⟩, fun e => absurd (of_decide_eq_true e) q⟩
        have h3 := hA g hg b hb
        have h4 := hg.2.2 0 b k hC
        have h5 := hg.1
        omega
    · rw [rLw_p a1 (by omega)]
      have hle : s.1 a ≤ m s.1 ↔ iv s.1 a ≤ iv s.1 b + k := by rw [Int32.le_iff_toInt_le, hmf, iv_p a1]
      have hy : (if s.1 a ≤ m s.1 then s.1 a else m s.1).toInt = if iv s.1 a ≤ iv s.1 b + k then iv s.1 a else iv s.1 b + k := by
        by_cases q : s.1 a ≤ m s.1
        · rw [if_pos q, if_pos (hle.mp q), iv_p a1]
        · rw [if_neg q, if_neg (fun e => q (hle.mpr e)), hmf]
      generalize (if s.1 a ≤ m s.1 then s.1 a else m s.1) = y at hy
      have hA2 : Abv C c top (iv (upd s.1 a y)) := Abv_low hA hC hb (fun j hj => by
        by_cases e : j = a
        · subst e; rw [if_pos rfl, iv_p a1, pk_us, hy]
        · rw [if_neg e]
          by_cases e0 : j = 0
          · subst e0; rw [iv_0, iv_0]
          · rw [iv_p (by omega), iv_p (by omega), pk_un e])
      have h1 := hB a a1 ha
      have e1 := iv_p (f := s.1) a1
      have hyle : y.toInt ≤ (s.1 a).toInt := by rw [hy]; split <;> omega
      have h6 : (-6 : Int32).toInt = -6 := rfl
      by_cases q : -6 ≤ y
      · have q2 := q
        rw [Int32.le_iff_toInt_le, h6] at q2
        refine ⟨⟨fun _ => ⟨fun j j1 j2 => ?_, hA2⟩, fun e => absurd q (of_decide_eq_false e)⟩, fun _ => ⟨h2, fun j j1 j2 => ?_, fun he a2 b2 k2 e _ _ => ?_⟩⟩
        · show -6 ≤ (upd s.1 a y j).toInt ∧ (upd s.1 a y j).toInt ≤ 6
          by_cases e : j = a
          · subst e; rw [pk_us]; omega
          · rw [pk_un e]; exact hB j j1 j2
        · show (upd s.1 a y j).toInt ≤ _
          by_cases e : j = a
          · subst e; rw [pk_us]; exact hyle
          · rw [pk_un e]; exact Int.le_refl _
        · rw [e.1, e.2.1, e.2.2]
          have h3 : upd s.1 a y a = s.1 a := he a a1 ha
          rw [pk_us] at h3
          rw [h3, ← e1] at hy
          split at hy <;> omega
      · have q2 := q
        rw [Int32.le_iff_toInt_le, h6] at q2
        refine ⟨⟨fun e => absurd (of_decide_eq_true e) q, fun _ => ?_⟩, fun e => absurd (of_decide_eq_true e) q⟩
        refine Abv_no hA2 ha (Or.inl ⟨a1, ?_⟩)
        rw [iv_p a1, pk_us]
        omega
