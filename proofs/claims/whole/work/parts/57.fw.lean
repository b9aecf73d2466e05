/-! Shortest ways: stages, walks, and that two ways of weighing find the same. -/
/-- none is more than every number -/
def oLe (a b : Option Int) : Prop := ∀ y, b = some y → ∃ x, a = some x ∧ x ≤ y
def oAd (a b : Option Int) : Option Int := match a, b with
  | some x, some y => some (x + y)
  | _, _ => none
def oMn (a b : Option Int) : Option Int := match a, b with
  | some x, some y => if y < x then some y else some x
  | some x, none => some x
  | none, b => b
theorem oLe_refl (a : Option Int) : oLe a a := fun y h => ⟨y, h, Int.le_refl _⟩
theorem oLe_trans {a b c : Option Int} (h : oLe a b) (h2 : oLe b c) : oLe a c := fun y e => by
  obtain ⟨x, e1, l1⟩ := h2 y e
  obtain ⟨z, e2, l2⟩ := h x e1
  exact ⟨z, e2, by omega⟩
theorem oAd_some {a b : Option Int} {y : Int} (h : oAd a b = some y) : ∃ p q, a = some p ∧ b = some q ∧ y = p + q := by
  cases a with
  | none => cases b <;> cases h
  | some p =>
    cases b with
    | none => cases h
    | some q => cases h; exact ⟨p, q, rfl, rfl, rfl⟩
theorem oAd_mono {a b a2 b2 : Option Int} (h : oLe a a2) (h2 : oLe b b2) : oLe (oAd a b) (oAd a2 b2) := fun y e => by
  obtain ⟨p, q, rfl, rfl, rfl⟩ := oAd_some e
  obtain ⟨x, rfl, l1⟩ := h p rfl
  obtain ⟨z, rfl, l2⟩ := h2 q rfl
  exact ⟨x + z, rfl, by omega⟩
theorem oAd_assoc (a b c : Option Int) : oAd (oAd a b) c = oAd a (oAd b c) := by
  cases a <;> cases b <;> cases c <;> first | rfl | (show some _ = some _; rw [Int.add_assoc])
theorem oMn_l (a b : Option Int) : oLe (oMn a b) a := fun y e => by
  subst e
  cases b with
  | none => exact ⟨y, rfl, Int.le_refl _⟩
  | some z =>
    show ∃ x, (if z < y then some z else some y) = some x ∧ x ≤ y
    split
    · exact ⟨z, rfl, by omega⟩
    · exact ⟨y, rfl, Int.le_refl _⟩
theorem oMn_r (a b : Option Int) : oLe (oMn a b) b := fun y e => by
  subst e
  cases a with
  | none => exact ⟨y, rfl, Int.le_refl _⟩
  | some z =>
    show ∃ x, (if y < z then some y else some z) = some x ∧ x ≤ y
    split
    · exact ⟨y, rfl, Int.le_refl _⟩
    · exact ⟨z, rfl, by omega⟩
theorem oMn_c (a b : Option Int) : oMn a b = a ∨ oMn a b = b := by
  cases a with
  | none => exact Or.inr rfl
  | some x =>
    cases b with
    | none => exact Or.inl rfl
    | some y =>
      show (if y < x then some y else some x) = some x ∨ (if y < x then some y else some x) = some y
      split
      · exact Or.inr rfl
      · exact Or.inl rfl
/-- one stage: ways over m are offered -/
def fwS (m : Nat) (D : Nat → Nat → Option Int) (u v : Nat) : Option Int := oMn (D u v) (oAd (D u m) (D m v))
/-- no way over x is shorter -/
def fwT (V : Nat → Prop) (D : Nat → Nat → Option Int) (x : Nat) : Prop := ∀ u v, V u → V v → oLe (D u v) (oAd (D u x) (D x v))
theorem fwS_tri {V : Nat → Prop} {D : Nat → Nat → Option Int} {m : Nat} (hm : V m) (h0 : D m m = some 0) (hn : ∀ x, V x → oLe (some 0) (oAd (D m x) (D x m))) {x : Nat} (hx : V x) (h : x = m ∨ fwT V D x) : fwT V (fwS m D) x := by
  have e1 : ∀ u, oLe (D u m) (fwS m D u m) := fun u => by
    unfold fwS
    rw [h0]
    rcases oMn_c (D u m) (oAd (D u m) (some 0)) with e | e
    · rw [e]; exact oLe_refl _
    · rw [e]
      intro y hy
      obtain ⟨p, q, hp, hq, rfl⟩ := oAd_some hy
      cases hq
      exact ⟨p, hp, by omega⟩
  have e2 : ∀ v, oLe (D m v) (fwS m D m v) := fun v => by
    unfold fwS
    rw [h0]
    rcases oMn_c (D m v) (oAd (some 0) (D m v)) with e | e
    · rw [e]; exact oLe_refl _
    · rw [e]
      intro y hy
      obtain ⟨p, q, hp, hq, rfl⟩ := oAd_some hy
      cases hp
      exact ⟨q, hq, by omega⟩
  intro u v hu hv
  by_cases exm : x = m
  · subst exm
    exact oLe_trans (oMn_r _ _) (oAd_mono (e1 u) (e2 v))
  · have ht : fwT V D x := h.resolve_left exm
    rcases oMn_c (D u x) (oAd (D u m) (D m x)) with ea | ea
    · rcases oMn_c (D x v) (oAd (D x m) (D m v)) with eb | eb
      · show oLe _ (oAd (fwS m D u x) (fwS m D x v))
        unfold fwS
        rw [ea, eb]
        exact oLe_trans (oMn_l _ _) (ht u v hu hv)
      · show oLe _ (oAd (fwS m D u x) (fwS m D x v))
        unfold fwS
        rw [ea, eb, ← oAd_assoc]
        exact oLe_trans (oMn_r _ _) (oAd_mono (ht u m hu hm) (oLe_refl _))
    · rcases oMn_c (D x v) (oAd (D x m) (D m v)) with eb | eb
      · show oLe _ (oAd (fwS m D u x) (fwS m D x v))
        unfold fwS
        rw [ea, eb, oAd_assoc]
        exact oLe_trans (oMn_r _ _) (oAd_mono (oLe_refl _) (ht m v hm hv))
      · show oLe _ (oAd (fwS m D u x) (fwS m D x v))
        unfold fwS
        rw [ea, eb, oAd_assoc, ← oAd_assoc (D m x)]
        refine oLe_trans (oMn_r _ _) (oAd_mono (oLe_refl _) ?_)
        intro y hy
        obtain ⟨p, q, hp, hq, rfl⟩ := oAd_some hy
        obtain ⟨z, hz, lz⟩ := hn x hx p hp
        cases hz
        exact ⟨q, hq, by omega⟩
/-- l leads from u to v: wires, with sources S and sinks K -/
def wlk (S K : Nat → Nat) : List Nat → Nat → Nat → Prop
  | [], u, v => u = v
  | i :: l, u, v => (i < 24 ∧ S i = u ∧ 1 ≤ u) ∧ wlk S K l (K i) v
def wR (R : Nat → Nat) : List Nat → Nat
  | [] => 0
  | i :: l => R i + wR R l
def wT (S d : Nat → Nat) : List Nat → Nat
  | [] => 0
  | i :: l => d (S i) + wT S d l
def wV (B : Int) (R S d : Nat → Nat) (l : List Nat) : Int := B * wR R l - wT S d l
section WLK
variable {S K R d : Nat → Nat}
theorem wlk_app : ∀ {l1 l2 : List Nat} {u x v : Nat}, wlk S K l1 u x → wlk S K l2 x v → wlk S K (l1 ++ l2) u v
  | [], _, _, _, _, h, h2 => by cases h; exact h2
  | _ :: _, _, _, _, _, h, h2 => ⟨h.1, wlk_app h.2 h2⟩
theorem wlk_spl : ∀ {l1 l2 : List Nat} {u v : Nat}, wlk S K (l1 ++ l2) u v → ∃ x, wlk S K l1 u x ∧ wlk S K l2 x v
  | [], _, u, _, h => ⟨u, rfl, h⟩
  | _ :: _, _, _, _, h => by
    obtain ⟨x, h1, h2⟩ := wlk_spl h.2
    exact ⟨x, ⟨h.1, h1⟩, h2⟩
theorem wR_app : ∀ l1 l2 : List Nat, wR R (l1 ++ l2) = wR R l1 + wR R l2
  | [], _ => (Nat.zero_add _).symm
  | i :: l, l2 => by
    show R i + wR R (l ++ l2) = R i + wR R l + wR R l2
    rw [wR_app l l2]; omega
theorem wT_app : ∀ l1 l2 : List Nat, wT S d (l1 ++ l2) = wT S d l1 + wT S d l2
  | [], _ => (Nat.zero_add _).symm
  | i :: l, l2 => by
    show d (S i) + wT S d (l ++ l2) = d (S i) + wT S d l + wT S d l2
    rw [wT_app l l2]; omega
theorem wV_app (B : Int) (l1 l2 : List Nat) : wV B R S d (l1 ++ l2) = wV B R S d l1 + wV B R S d l2 := by
  unfold wV
  rw [wR_app, wT_app, Int.natCast_add, Int.natCast_add, Int.mul_add]
  omega
theorem wlk_pot {p : Nat → Int} (hp : ∀ i, i < 24 → 1 ≤ S i → (d (S i) : Int) ≤ 600 * R i + p (K i) - p (S i)) : ∀ {l : List Nat} {u v : Nat}, wlk S K l u v → (wT S d l : Int) ≤ 600 * wR R l + p v - p u
  | [], u, v, h => by cases h; show (0 : Int) ≤ 600 * 0 + p u - p u; omega
  | i :: l, u, v, h => by
    obtain ⟨⟨h1, h2, h3⟩, h4⟩ := h
    have a := hp i h1 (by omega)
    have b := wlk_pot hp h4
    show ((d (S i) + wT S d l : Nat) : Int) ≤ 600 * ((R i + wR R l : Nat) : Int) + p v - p u
    subst h2
    rw [Int.natCast_add, Int.natCast_add]
    omega
/-- closed walks are worth something -/
theorem wlk_closed {p : Nat → Int} (hp : ∀ i, i < 24 → 1 ≤ S i → (d (S i) : Int) ≤ 600 * R i + p (K i) - p (S i)) {B : Int} (hB : 600 ≤ B) {l : List Nat} {u : Nat} (h : wlk S K l u u) : 0 ≤ wV B R S d l := by
  have := wlk_pot hp h
  unfold wV
  have h2 : 600 * (wR R l : Int) ≤ B * wR R l := Int.mul_le_mul_of_nonneg_right hB (Int.natCast_nonneg _)
  omega
theorem nodup_le : ∀ (c : Nat) (l : List Nat), l.Nodup → (∀ x, x ∈ l → 1 ≤ x ∧ x ≤ c) → l.length ≤ c
  | 0, l, _, h => by
    cases l with
    | nil => exact Nat.le_refl _
    | cons x l => have := h x List.mem_cons_self; omega
  | c + 1, l, hn, h => by
    by_cases hm : (c + 1) ∈ l
    · have h1 := nodup_le c (l.erase (c + 1)) (hn.erase _) (fun x hx => by
        rw [hn.mem_erase_iff] at hx
        have := h x hx.2
        have := hx.1
        omega)
      rw [List.length_erase_of_mem hm] at h1
      omega
    · have h1 := nodup_le c l hn (fun x hx => by
        have h2 := h x hx
        by_cases e : x = c + 1
        · subst e; exact absurd hx hm
        · omega)
      omega
theorem dup_or (f : Nat → Nat) : ∀ l : List Nat, (∃ l1 i l2 j l3, l = l1 ++ i :: (l2 ++ j :: l3) ∧ f i = f j) ∨ (l.map f).Nodup
  | [] => Or.inr List.nodup_nil
  | x :: l => by
    rcases dup_or f l with ⟨l1, i, l2, j, l3, rfl, e⟩ | h
    · exact Or.inl ⟨x :: l1, i, l2, j, l3, rfl, e⟩
    · by_cases hm : f x ∈ l.map f
      · obtain ⟨y, hy, e⟩ := List.mem_map.mp hm
        obtain ⟨s, t, rfl⟩ := List.append_of_mem hy
        exact Or.inl ⟨[], x, s, y, t, rfl, e.symm⟩
      · exact Or.inr (List.nodup_cons.mpr ⟨hm, h⟩)
theorem wlk_src {c : Nat} (hS : ∀ i, i < 24 → S i ≤ c) : ∀ {l : List Nat} {u v : Nat}, wlk S K l u v → ∀ x, x ∈ l.map S → 1 ≤ x ∧ x ≤ c
  | [], _, _, _, x, hx => absurd hx List.not_mem_nil
  | i :: l, u, v, h, x, hx => by
    obtain ⟨⟨h1, h2, h3⟩, h4⟩ := h
    rcases List.mem_cons.mp hx with e | e
    · subst e; exact ⟨by omega, hS i h1⟩
    · exact wlk_src hS h4 x e
/-- a walk can be shortened to one with at most c wires -/
theorem wlk_short {c : Nat} (hS : ∀ i, i < 24 → S i ≤ c) {p : Nat → Int} (hp : ∀ i, i < 24 → 1 ≤ S i → (d (S i) : Int) ≤ 600 * R i + p (K i) - p (S i)) : ∀ (n : Nat) (l : List Nat) (u v : Nat), l.length ≤ n → wlk S K l u v → ∃ l2, l2.length ≤ c ∧ wlk S K l2 u v ∧ ∀ B : Int, 600 ≤ B → wV B R S d l2 ≤ wV B R S d l
  | 0, l, u, v, hl, h => ⟨l, by omega, h, fun _ _ => Int.le_refl _⟩
  | n + 1, l, u, v, hl, h => by
    rcases dup_or S l with ⟨l1, i, l2, j, l3, rfl, e⟩ | hn
    · obtain ⟨x, h1, h2⟩ := wlk_spl h
      have h2' : wlk S K ((i :: l2) ++ (j :: l3)) x v := h2
      obtain ⟨y, h3, h4⟩ := wlk_spl h2'
      have ex : S i = x := h3.1.2.1
      have ey : S j = y := h4.1.2.1
      have exy : x = y := by omega
      subst exy
      have hlen : (l1 ++ j :: l3).length ≤ n := by
        simp only [List.length_append, List.length_cons] at hl ⊢
        omega
      obtain ⟨q, q1, q2, q3⟩ := wlk_short hS hp n (l1 ++ j :: l3) u v hlen (wlk_app h1 h4)
      refine ⟨q, q1, q2, fun B hB => ?_⟩
      have hc := wlk_closed hp hB h3
      have e1 : wV B R S d (l1 ++ i :: (l2 ++ j :: l3)) = wV B R S d l1 + (wV B R S d (i :: l2) + wV B R S d (j :: l3)) := by
        rw [wV_app, show i :: (l2 ++ j :: l3) = (i :: l2) ++ (j :: l3) from rfl, wV_app]
      have e2 := q3 B hB
      rw [wV_app] at e2
      rw [e1]
      omega
    · have h1 := nodup_le c (l.map S) hn (wlk_src hS h)
      rw [List.length_map] at h1
      exact ⟨l, h1, h, fun _ _ => Int.le_refl _⟩
theorem wT_le {D : Nat} (hd : ∀ g, g < 13 → d g ≤ D) (hS : ∀ i, i < 24 → S i < 13) : ∀ {l : List Nat} {u v : Nat}, wlk S K l u v → wT S d l ≤ D * l.length
  | [], _, _, _ => Nat.zero_le _
  | i :: l, u, v, h => by
    obtain ⟨⟨h1, h2, h3⟩, h4⟩ := h
    have a := hd (S i) (hS i h1)
    have b := wT_le hd hS h4
    show d (S i) + wT S d l ≤ D * (l.length + 1)
    rw [Nat.mul_add]
    omega
end WLK
section FWO
variable {S K R d : Nat → Nat} {p : Nat → Int} {B : Int} {c : Nat}
def inV (c x : Nat) : Prop := 1 ≤ x ∧ x ≤ c
/-- every entry is what some walk is worth -/
def fwA (S K R d : Nat → Nat) (B : Int) (D : Nat → Nat → Option Int) : Prop := ∀ u v x, D u v = some x → ∃ l, wlk S K l u v ∧ x = wV B R S d l
theorem fwA_step {D : Nat → Nat → Option Int} (h : fwA S K R d B D) (m : Nat) : fwA S K R d B (fwS m D) := by
  intro u v x e
  unfold fwS at e
  rcases oMn_c (D u v) (oAd (D u m) (D m v)) with q | q
  · rw [q] at e; exact h u v x e
  · rw [q] at e
    obtain ⟨a, b, h1, h2, rfl⟩ := oAd_some e
    obtain ⟨l1, w1, rfl⟩ := h u m a h1
    obtain ⟨l2, w2, rfl⟩ := h m v b h2
    exact ⟨l1 ++ l2, wlk_app w1 w2, (wV_app B l1 l2).symm⟩
theorem fwA_pos (hp : ∀ i, i < 24 → 1 ≤ S i → (d (S i) : Int) ≤ 600 * R i + p (K i) - p (S i)) (hB : 600 ≤ B) {D : Nat → Nat → Option Int} (h : fwA S K R d B D) (u m : Nat) : oLe (some 0) (oAd (D u m) (D m u)) := fun y e => by
  obtain ⟨a, b, h1, h2, rfl⟩ := oAd_some e
  obtain ⟨l1, w1, rfl⟩ := h u m a h1
  obtain ⟨l2, w2, rfl⟩ := h m u b h2
  have := wlk_closed hp hB (wlk_app w1 w2)
  rw [wV_app] at this
  exact ⟨0, rfl, this⟩
def fwR (D0 : Nat → Nat → Option Int) : Nat → Nat → Nat → Option Int
  | 0 => D0
  | m + 1 => fwS (m + 1) (fwR D0 m)
/-- what stands behind stage n -/
theorem fwR_inv (hp : ∀ i, i < 24 → 1 ≤ S i → (d (S i) : Int) ≤ 600 * R i + p (K i) - p (S i)) (hB : 600 ≤ B) {D0 : Nat → Nat → Option Int} (hA : fwA S K R d B D0) (h0 : ∀ u, inV c u → D0 u u = some 0) : ∀ n, n ≤ c → fwA S K R d B (fwR D0 n) ∧ (∀ u, inV c u → fwR D0 n u u = some 0) ∧ (∀ u v, oLe (fwR D0 n u v) (D0 u v)) ∧ (∀ x, 1 ≤ x → x ≤ n → fwT (inV c) (fwR D0 n) x) := by
  intro n
  induction n with
  | zero => intro _; exact ⟨hA, h0, fun u v => oLe_refl _, fun x h1 h2 => absurd h1 (by omega)⟩
  | succ n ih =>
    intro hn
    obtain ⟨i1, i2, i3, i4⟩ := ih (by omega)
    have hm : inV c (n + 1) := ⟨by omega, hn⟩
    refine ⟨fwA_step i1 (n + 1), ?_, ?_, ?_⟩
    · intro u hu
      show oMn (fwR D0 n u u) (oAd (fwR D0 n u (n + 1)) (fwR D0 n (n + 1) u)) = some 0
      rw [i2 u hu]
      have hpos := fwA_pos hp hB i1 u (n + 1)
      cases e : oAd (fwR D0 n u (n + 1)) (fwR D0 n (n + 1) u) with
      | none => rfl
      | some y =>
        obtain ⟨x, hx, l⟩ := hpos y e
        cases hx
        show (if y < 0 then some y else some 0) = some 0
        rw [if_neg (by omega)]
    · intro u v
      exact oLe_trans (oMn_l _ _) (i3 u v)
    · intro x h1 h2
      refine fwS_tri hm (i2 _ hm) (fun y hy => fwA_pos hp hB i1 (n + 1) y) ⟨h1, by omega⟩ ?_
      by_cases e : x = n + 1
      · exact Or.inl e
      · exact Or.inr (i4 x h1 (by omega))
/-- the last stage is worth no more than any walk -/
theorem fwR_opt (hp : ∀ i, i < 24 → 1 ≤ S i → (d (S i) : Int) ≤ 600 * R i + p (K i) - p (S i)) (hB : 600 ≤ B) {D0 : Nat → Nat → Option Int} (hA : fwA S K R d B D0) (h0 : ∀ u, inV c u → D0 u u = some 0) (hS : ∀ i, i < 24 → S i ≤ c) (hK : ∀ i, i < 24 → 1 ≤ S i → inV c (K i)) (hE : ∀ i, i < 24 → 1 ≤ S i → oLe (D0 (S i) (K i)) (some (wV B R S d [i]))) : ∀ (l : List Nat) (u v : Nat), inV c u → wlk S K l u v → oLe (fwR D0 c u v) (some (wV B R S d l)) := by
  obtain ⟨i1, i2, i3, i4⟩ := fwR_inv hp hB hA h0 c (Nat.le_refl _)
  intro l
  induction l with
  | nil =>
    intro u v hu h
    cases h
    rw [i2 u hu]
    show oLe (some 0) (some (B * (0 : Nat) - (0 : Nat)))
    rw [show B * ((0 : Nat) : Int) - ((0 : Nat) : Int) = 0 from by omega]
    exact oLe_refl _
  | cons i l ih =>
    intro u v hu h
    obtain ⟨⟨h1, rfl, h3⟩, h4⟩ := h
    have hk := hK i h1 h3
    have a := oLe_trans (i3 (S i) (K i)) (hE i h1 h3)
    have b := ih (K i) v hk h4
    have hv : inV c v := by
      have : ∀ (l : List Nat) (x : Nat), inV c x → wlk S K l x v → inV c v := by
        intro l
        induction l with
        | nil => intro x hx h; cases h; exact hx
        | cons j l ih2 => intro x hx h; exact ih2 (K j) (hK j h.1.1 (by have := h.1.2; omega)) h.2
      exact this l (K i) hk h4
    have t := i4 (K i) hk.1 hk.2 (S i) v hu hv
    have e : oAd (some (wV B R S d [i])) (some (wV B R S d l)) = some (wV B R S d (i :: l)) := by
      show some (wV B R S d [i] + wV B R S d l) = _
      rw [← wV_app]; rfl
    rw [← e]
    exact oLe_trans t (oAd_mono a b)
/-- two ways to weigh registers against delays find the same walks best -/
theorem opt_same (hp : ∀ i, i < 24 → 1 ≤ S i → (d (S i) : Int) ≤ 600 * R i + p (K i) - p (S i)) (hc : c ≤ 12) (hS : ∀ i, i < 24 → S i ≤ c) (hd : ∀ g, g < 13 → d g ≤ 50) {B2 : Int} (h1 : 1024 ≤ B) (h2 : 1024 ≤ B2) {u v : Nat} {l l2 : List Nat} (w1 : wlk S K l u v) (w2 : wlk S K l2 u v) (m1 : ∀ q, wlk S K q u v → wV B R S d l ≤ wV B R S d q) (m2 : ∀ q, wlk S K q u v → wV B2 R S d l2 ≤ wV B2 R S d q) : wR R l = wR R l2 ∧ wT S d l = wT S d l2 ∧ wT S d l ≤ 600 := by
  have key : ∀ (C : Int) (q : List Nat), 1024 ≤ C → wlk S K q u v → (∀ q', wlk S K q' u v → wV C R S d q ≤ wV C R S d q') → wT S d q ≤ 600 := by
    intro C q hC wq mq
    obtain ⟨s, s1, s2, s3⟩ := wlk_short hS hp q.length q u v (Nat.le_refl _) wq
    have a := mq s s2
    have b := s3 600 (by omega)
    have t := wT_le (D := 50) hd (fun i hi => by have := hS i hi; omega) s2
    have t2 : wT S d s ≤ 600 := by
      have : 50 * s.length ≤ 50 * 12 := Nat.mul_le_mul_left _ (by omega)
      omega
    unfold wV at a b
    by_cases e : wR R q ≤ wR R s
    · by_cases e2 : wR R q = wR R s
      · rw [e2] at b; omega
      · have h : C * (wR R q : Int) + C ≤ C * (wR R s : Int) := by
          have h3 : C * ((wR R q : Int) + 1) ≤ C * (wR R s : Int) := Int.mul_le_mul_of_nonneg_left (by omega) (by omega)
          rw [Int.mul_add, Int.mul_one] at h3
          exact h3
        have b2 := s3 C (by omega)
        unfold wV at b2
        have h5 := s3 600 (by omega)
        unfold wV at h5
        omega
    · have h : (C - 600) * (wR R s : Int) + (C - 600) ≤ (C - 600) * (wR R q : Int) := by
        have h3 : (C - 600) * ((wR R s : Int) + 1) ≤ (C - 600) * (wR R q : Int) := Int.mul_le_mul_of_nonneg_left (by omega) (by omega)
        rw [Int.mul_add, Int.mul_one] at h3
        exact h3
      rw [Int.sub_mul, Int.sub_mul] at h
      omega
  have t1 := key B l h1 w1 m1
  have t2 := key B2 l2 h2 w2 m2
  have a := m1 l2 w2
  have b := m2 l w1
  unfold wV at a b
  have hr : wR R l = wR R l2 := by
    by_cases e : wR R l ≤ wR R l2
    · by_cases e2 : wR R l2 ≤ wR R l
      · omega
      · have h3 : B2 * ((wR R l : Int) + 1) ≤ B2 * (wR R l2 : Int) := Int.mul_le_mul_of_nonneg_left (by omega) (by omega)
        rw [Int.mul_add, Int.mul_one] at h3
        omega
    · have h3 : B * ((wR R l2 : Int) + 1) ≤ B * (wR R l : Int) := Int.mul_le_mul_of_nonneg_left (by omega) (by omega)
      rw [Int.mul_add, Int.mul_one] at h3
      omega
  rw [hr] at a b
  refine ⟨hr, ?_, t1⟩
  rw [hr] at *
  omega
end FWO
