/-! A whole round of moves, in class and reference. -/
section MV2
variable {c : Nat} {I : Nat → Nat → Int32} {L : Nat → Nat → Int64} {J : Nat → Nat → Int32} {f : Nat → Int32}
/-- moves left, registers now -/
def MI (c : Nat) (J : Nat → Nat → Int32) (f lf : Nat → Int32) (M : Nat → Int32) : Prop := (∀ g, 1 ≤ g → g ≤ c → (0 ≤ (lf g).toInt ∧ (lf g).toInt ≤ (f g).toInt) ∨ ((f g).toInt ≤ (lf g).toInt ∧ (lf g).toInt ≤ 0)) ∧ (∀ w, w < 27 → ¬ J 3 w = 0 → (M w).toInt = (J 4 w).toInt + (iv f (gbf w) - iv lf (gbf w)) - (iv f (cSr J w) - iv lf (cSr J w))) ∧ ∀ w, w < 27 → J 3 w = 0 → M w = 0
def kJS (c : Nat) (J : Nat → Nat → Int32) (f : Nat → Int32) (x : mS) (s : tS) (lf : Nat → Int32) : Prop := BR x.1 s ∧ (∀ g, 1 ≤ g → g ≤ c → x.2 g = lf g) ∧ MI c J f lf s.2
/-- the labelling is legal -/
def Lgl (c : Nat) (J : Nat → Nat → Int32) (f : Nat → Int32) : Prop := lB c f ∧ ∀ w, w < 27 → ¬ J 3 w = 0 → 0 ≤ (J 4 w).toInt + iv f (gbf w) - iv f (cSr J w) ∧ (J 4 w).toInt + iv f (gbf w) - iv f (cSr J w) ≤ 20
def Pns (c : Nat) (J : Nat → Nat → Int32) : Prop := ∀ g, 1 ≤ g → g ≤ c → ∀ k, k < pn (J 1) g → ¬ J 3 (2 * g - 2 + k) = 0
theorem MI_dj {lf M : Nat → Int32} (h : MI c J f lf M) {g : Nat} (hg : g ≤ c) : (0 ≤ iv lf g ∧ iv lf g ≤ iv f g) ∨ (iv f g ≤ iv lf g ∧ iv lf g ≤ 0) := by
  by_cases e : g = 0
  · subst e; rw [iv_0, iv_0]; omega
  · rw [iv_p (by omega), iv_p (by omega)]; exact h.1 g (by omega) hg
theorem JS_bd (R : Rel c I L J) (hl : Lgl c J f) {x : mS} {s : tS} {lf : Nat → Int32} (h : kJS c J f x s lf) : ∀ w, w < 27 → ∃ m, m ≤ 26 ∧ s.2 w = nI m := fun w hw => by
  have hc := R.hc
  obtain ⟨m, hm, _, e2, _⟩ := h.1 w hw
  refine ⟨m, ?_, e2⟩
  by_cases q : J 3 w = 0
  · have := h.2.2.2.2 w hw q
    rw [e2] at this
    have := (nI_eq (b := 0) (by omega) (by decide)).mp this
    omega
  · obtain ⟨s1, s2, _, m0, hm0, em0⟩ := wir R hw q
    have h1 := h.2.2.2.1 w hw q
    have h2 := MI_dj h.2.2 s1
    have h3 := MI_dj h.2.2 s2
    have h4 := hl.2 w hw q
    have h5 := iv_b hl.1 s1
    have h6 := iv_b hl.1 s2
    rw [e2, nI_toInt (by omega), em0, nI_toInt (by omega)] at h1
    rw [em0, nI_toInt (by omega)] at h4
    omega
theorem can_f (R : Rel c I L J) {x : mS} {s : tS} {lf : Nat → Int32} (h : kJS c J f x s lf) {g : Nat} (g1 : 1 ≤ g) (g2 : g ≤ c) : canF (I 10) x.1.1 g = rCF (J 1) s.2 g := by
  have hc := R.hc
  unfold canF rCF
  rw [pn_eq (R.kd g (by omega))]
  have := pn_12 (J 1) g
  refine allB_eq (fun k hk => ?_)
  obtain ⟨m, hm, e1, e2, _⟩ := h.1 (2 * g - 2 + k) (by omega)
  show decide (¬ x.1.1 (2 * g - 2 + k) = 0) = decide (¬ s.2 (2 * g - 2 + k) ≤ 0)
  rw [e1, e2]
  by_cases q : m = 0
  · subst q; decide
  · rw [decide_eq_true (nI_ne0 (by omega) (by omega)), decide_eq_true (nI_nle (by omega) (by omega))]
theorem can_b (R : Rel c I L J) {x : mS} {s : tS} {lf : Nat → Int32} (h : kJS c J f x s lf) {g : Nat} : canB (I 12) x.1.1 g = rCB (J 3) s.2 g := by
  unfold canB rCB
  refine allB_eq (fun w hw => ?_)
  obtain ⟨m, hm, e1, e2, _⟩ := h.1 w hw
  show (!(decide (I 12 w = nI g) && decide (x.1.1 w = 0))) = decide (¬ J 3 w = nI g ∨ ¬ s.2 w ≤ 0)
  rw [e1, e2, R.fr w hw]
  by_cases q : m = 0
  · subst q
    by_cases p : J 3 w = nI g
    · rw [decide_eq_true p, decide_eq_true (show nI 0 = 0 from rfl), decide_eq_false (fun z => by rcases z with z | z; exact z p; exact z (by decide))]; rfl
    · rw [decide_eq_false p, decide_eq_true (Or.inl p)]; rfl
  · rw [decide_eq_false (nI_ne0 (by omega) (by omega)), Bool.and_false, decide_eq_true (Or.inr (nI_nle (by omega) (by omega)))]; rfl
theorem iP_is (R : Rel c I L J) {g w : Nat} (g1 : 1 ≤ g) (g2 : g ≤ c) (hw : w < 27) (h : ¬ J 3 w = 0) : iP J g w = if gbf w = g then 1 else 0 := by
  have hc := R.hc
  unfold iP
  have hp := pn_12 (J 1) g
  by_cases q : gbf w = g
  · rw [if_pos q]
    unfold gbf at q
    by_cases h24 : 24 ≤ w
    · rw [if_pos h24] at q; omega
    · rw [if_neg h24] at q
      by_cases e : w = 2 * g - 1
      · by_cases p1 : pn (J 1) g = 1
        · have := R.frp g g1 g2 p1
          rw [← e] at this
          exact absurd this h
        · rw [if_pos (by omega)]
      · rw [if_pos (by omega)]
  · rw [if_neg q, if_neg (fun p => q ?_)]
    unfold gbf
    rw [if_neg (by omega)]
    omega
theorem iQ_is (R : Rel c I L J) {g w : Nat} (g1 : 1 ≤ g) (g2 : g ≤ c) (hw : w < 27) (h : ¬ J 3 w = 0) : iQ J g w = if cSr J w = g then 1 else 0 := by
  have hc := R.hc
  obtain ⟨s1, _, s3, _⟩ := wir R hw h
  unfold iQ
  rcases s3 with ⟨h1, h2⟩ | ⟨h1, h2⟩
  · rw [h2, if_neg (show ¬ 0 = g by omega), if_neg (fun q => by rw [q] at h1; exact nI_nle (by omega) (by omega) h1)]
  · rw [h1]
    by_cases q : cSr J w = g
    · rw [if_pos q, if_pos (by rw [q])]
    · rw [if_neg q, if_neg (fun p => q ((nI_eq (by omega) (by omega)).mp p))]
theorem iv_upd {lf : Nat → Int32} {g : Nat} (g1 : 1 ≤ g) {y : Int32} (j : Nat) : iv (upd lf g y) j = if j = g then y.toInt else iv lf j := by
  by_cases e : j = g
  · rw [if_pos e, e, iv_p g1, pk_us]
  · rw [if_neg e]
    by_cases e0 : j = 0
    · subst e0; rw [iv_0, iv_0]
    · rw [iv_p (by omega), iv_p (by omega), pk_un e]
theorem MI_step (R : Rel c I L J) (hp : Pns c J) {lf M M2 : Nat → Int32} {g : Nat} (g1 : 1 ≤ g) (g2 : g ≤ c) {y : Int32} {d : Int} (h : MI c J f lf M) (hy : y.toInt = (lf g).toInt + d) (hd : (d = 1 ∧ (lf g).toInt < 0) ∨ (d = -1 ∧ 0 < (lf g).toInt)) (hM : ∀ w, w < 27 → (M2 w).toInt = (M w).toInt - d * iP J g w + d * iQ J g w) : MI c J f (upd lf g y) M2 := by
  have hc := R.hc
  refine ⟨fun j j1 j2 => ?_, fun w hw h0 => ?_, fun w hw h0 => ?_⟩
  · by_cases e : j = g
    · subst e; rw [pk_us]
      have := h.1 j j1 j2
      omega
    · rw [pk_un e]; exact h.1 j j1 j2
  · rw [hM w hw, iP_is R g1 g2 hw h0, iQ_is R g1 g2 hw h0, iv_upd g1, iv_upd g1, h.2.1 w hw h0, hy]
    have e1 := iv_p (f := lf) g1
    by_cases a : gbf w = g
    · by_cases b : cSr J w = g
      · rw [if_pos a, if_pos b, if_pos a, if_pos b, a, b, ← e1]; omega
      · rw [if_pos a, if_neg b, if_pos a, if_neg b, a, ← e1]; omega
    · by_cases b : cSr J w = g
      · rw [if_neg a, if_pos b, if_neg a, if_pos b, b, ← e1]; omega
      · rw [if_neg a, if_neg b, if_neg a, if_neg b]; omega
  · have e1 : iP J g w = 0 := by
      unfold iP
      rw [if_neg (fun q => hp g g1 g2 (w - (2 * g - 2)) (by omega) ?_)]
      rw [show 2 * g - 2 + (w - (2 * g - 2)) = w from by omega]; exact h0
    have e2 : iQ J g w = 0 := by
      unfold iQ
      rw [h0, if_neg (fun q => nI_ne0 (n := g) (by omega) (by omega) q.symm)]
    have := hM w hw
    rw [e1, e2, h.2.2 w hw h0] at this
    refine Int32.toInt_inj.mp ?_
    rw [this]
    simp
/-- can be moved over -/
def cMv (J : Nat → Nat → Int32) (M lf : Nat → Int32) (g : Nat) : Prop := (¬ 0 ≤ lf g ∧ rCF (J 1) M g = true) ∨ (¬ lf g ≤ 0 ∧ rCB (J 3) M g = true)
/-- moves left altogether -/
def aI (lf : Nat → Int32) (g : Nat) : Int := if 0 ≤ iv lf g then iv lf g else - iv lf g
def tot (c : Nat) (lf : Nat → Int32) : Int := sI (aI lf) c
theorem tot_lt {lf : Nat → Int32} {g : Nat} (g1 : 1 ≤ g) (g2 : g ≤ c) {y : Int32} {d : Int} (hy : y.toInt = (lf g).toInt + d) (hd : (d = 1 ∧ (lf g).toInt < 0) ∨ (d = -1 ∧ 0 < (lf g).toInt)) : tot c (upd lf g y) < tot c lf := by
  have e1 := iv_p (f := lf) g1
  have key : aI (upd lf g y) g < aI lf g := by
    unfold aI
    rw [iv_upd g1, if_pos rfl, hy, e1]
    split <;> split <;> omega
  refine sI_lt c (fun a a1 a2 => ?_) ⟨g, g1, g2, key⟩
  by_cases e : a = g
  · rw [e]; omega
  · have : aI (upd lf g y) a = aI lf a := by unfold aI; rw [iv_upd g1, if_neg e]
    omega
theorem st_2 (R : Rel c I L J) (hp : Pns c J) (hl : Lgl c J f) {x : mS} {s : tS} {lf : Nat → Int32} (mv : Bool) (h : kJS c J f x s lf) {g : Nat} (g1 : 1 ≤ g) (g2 : g ≤ c) : (rSt J g (s, lf, mv)).2 = (mStep (I 10) (I 12) g x).2 ∧ ((∀ g, 1 ≤ g → g ≤ c → (f g).toInt ≤ 0) → (rSt J g (s, lf, mv)).2 = true) ∧ ((rSt J g (s, lf, mv)).2 = true → kJS c J f (mStep (I 10) (I 12) g x).1 (rSt J g (s, lf, mv)).1.1 (rSt J g (s, lf, mv)).1.2.1 ∧ (((rSt J g (s, lf, mv)).1 = (s, lf, mv) ∧ ¬ cMv J s.2 lf g) ∨ ((rSt J g (s, lf, mv)).1.2.2 = true ∧ tot c (rSt J g (s, lf, mv)).1.2.1 < tot c lf))) := by
  have hc := R.hc
  have hbd := JS_bd R hl h
  have ex := h.2.1 g g1 g2
  have hlb := MI_dj h.2.2 g2
  have hfb := iv_b hl.1 g2
  have e1 := iv_p (f := lf) g1
  have z0 : (0 : Int32).toInt = 0 := rfl
  have o1 : (1 : Int32).toInt = 1 := rfl
  unfold rSt mStep
  rw [can_f R h g1 g2, can_b R h, ex]
  show (if ¬ 0 ≤ lf g ∧ rCF (J 1) s.2 g = true then ((rFwd J g s, upd lf g (lf g + 1), true), true) else if ¬ lf g ≤ 0 ∧ rCB (J 3) s.2 g = true then (if (rBwd J g s).2 = true then (((rBwd J g s).1, upd lf g (lf g - 1), true), true) else (((rBwd J g s).1, lf, mv), false)) else ((s, lf, mv), true)).2 = _ ∧ _
  by_cases q1 : ¬ 0 ≤ lf g ∧ rCF (J 1) s.2 g = true
  · rw [if_pos q1, if_pos q1]
    refine ⟨rfl, fun _ => rfl, fun _ => ?_⟩
    obtain ⟨b1, b2⟩ := fwd_2 R g1 g2 h.1 hbd q1.2
    have n1 : (lf g).toInt < 0 := by
      have := q1.1
      rw [Int32.le_iff_toInt_le, z0] at this; omega
    have hy : (lf g + 1).toInt = (lf g).toInt + 1 := by rw [add_t (by omega) (by omega), o1]
    refine ⟨⟨b1, fun j j1 j2 => ?_, MI_step R hp g1 g2 h.2.2 hy (Or.inl ⟨rfl, n1⟩) (fun w hw => by show ((rFwd J g s).2 w).toInt = _; have := b2 w hw; omega)⟩, Or.inr ⟨rfl, tot_lt g1 g2 hy (Or.inl ⟨rfl, n1⟩)⟩⟩
    show upd x.2 g (lf g + 1) j = upd lf g (lf g + 1) j
    by_cases e : j = g
    · rw [e, pk_us, pk_us]
    · rw [pk_un e, pk_un e]; exact h.2.1 j j1 j2
  · rw [if_neg q1, if_neg q1]
    by_cases q2 : ¬ lf g ≤ 0 ∧ rCB (J 3) s.2 g = true
    · rw [if_pos q2, if_pos q2]
      obtain ⟨b1, b2⟩ := bwd_2 R g1 g2 h.1 hbd q2.2
      have n1 : 0 < (lf g).toInt := by
        have := q2.1
        rw [Int32.le_iff_toInt_le, z0] at this; omega
      have hpos : 0 < (f g).toInt := by have := h.2.2.1 g g1 g2; omega
      have hy : (lf g - 1).toInt = (lf g).toInt + -1 := by rw [sub_t (by omega) (by omega), o1]; omega
      cases hb : (rBwd J g s).2 with
      | false =>
        rw [if_neg Bool.false_ne_true]
        refine ⟨?_, fun hn => absurd (hn g g1 g2) (by omega), fun q => Bool.noConfusion q⟩
        show false = (mBwd (I 10) (I 12) g x.1).2
        rw [b1, hb]
      | true =>
        rw [if_pos rfl]
        obtain ⟨b3, b4⟩ := b2 hb
        refine ⟨?_, fun _ => rfl, fun _ => ⟨⟨b3, fun j j1 j2 => ?_, MI_step R hp g1 g2 h.2.2 hy (Or.inr ⟨rfl, n1⟩) (fun w hw => by show ((rBwd J g s).1.2 w).toInt = _; have := b4 w hw; omega)⟩, Or.inr ⟨rfl, tot_lt g1 g2 hy (Or.inr ⟨rfl, n1⟩)⟩⟩⟩
        · show true = (mBwd (I 10) (I 12) g x.1).2
          rw [b1, hb]
        · show upd x.2 g (lf g - 1) j = upd lf g (lf g - 1) j
          by_cases e : j = g
          · rw [e, pk_us, pk_us]
          · rw [pk_un e, pk_un e]; exact h.2.1 j j1 j2
    · rw [if_neg q2, if_neg q2]
      exact ⟨rfl, fun _ => rfl, fun _ => ⟨h, Or.inl ⟨rfl, fun z => z.elim q1 q2⟩⟩⟩
theorem tBb_of {M : Nat → Int32} (h : ∀ w, w < 27 → ∃ m, m ≤ 26 ∧ M w = nI m) : tBb M = true := allB_iff.mpr (fun w hw => by
  obtain ⟨m, hm, e⟩ := h w hw
  refine decide_eq_true ?_
  rw [e]
  exact ⟨nI_pos (by omega), nI_ge (b := 40) (by omega) (by decide)⟩)
theorem ea_2 (R : Rel c I L J) (hp : Pns c J) (hl : Lgl c J f) : ∀ (k i : Nat) (x : mS) (s : tS) (lf : Nat → Int32) (mv : Bool), i + k = c → kJS c J f x s lf → ∃ q, rEa J k i (s, lf, mv) = some q ∧ q.2 = (lpB (fun i s => mStep (I 10) (I 12) (i + 1) s) k i x).2 ∧ ((∀ g, 1 ≤ g → g ≤ c → (f g).toInt ≤ 0) → q.2 = true) ∧ (q.2 = true → kJS c J f (lpB (fun i s => mStep (I 10) (I 12) (i + 1) s) k i x).1 q.1.1 q.1.2.1 ∧ ((q.1 = (s, lf, mv) ∧ ∀ g, i < g → g ≤ c → ¬ cMv J s.2 lf g) ∨ (q.1.2.2 = true ∧ tot c q.1.2.1 < tot c lf)))
  | 0, i, x, s, lf, mv, hi, h => ⟨((s, lf, mv), true), rfl, rfl, fun _ => rfl, fun _ => ⟨h, Or.inl ⟨rfl, fun g a b => by omega⟩⟩⟩
  | k + 1, i, x, s, lf, mv, hi, h => by
    obtain ⟨a1, a2, a3⟩ := st_2 R hp hl mv h (g := i + 1) (by omega) (by omega)
    have ht : tBb s.2 = true := tBb_of (JS_bd R hl h)
    unfold rEa lpB
    show ∃ q, (if tBb s.2 = false then none else if (rSt J (i + 1) (s, lf, mv)).2 = true then rEa J k (i + 1) (rSt J (i + 1) (s, lf, mv)).1 else some ((rSt J (i + 1) (s, lf, mv)).1, false)) = some q ∧ _
    rw [ht, if_neg (by decide)]
    cases hb : (rSt J (i + 1) (s, lf, mv)).2 with
    | false =>
      rw [if_neg Bool.false_ne_true]
      rw [hb] at a1
      rw [if_neg (by rw [← a1]; exact Bool.false_ne_true)]
      refine ⟨_, rfl, a1, fun hn => ?_, fun q => Bool.noConfusion q⟩
      have := a2 hn
      rw [hb] at this
      exact Bool.noConfusion this
    | true =>
      rw [if_pos rfl]
      rw [hb] at a1
      rw [if_pos a1.symm]
      obtain ⟨j1, j2⟩ := a3 hb
      obtain ⟨q, r1, r2, r3, r4⟩ := ea_2 R hp hl k (i + 1) _ (rSt J (i + 1) (s, lf, mv)).1.1 (rSt J (i + 1) (s, lf, mv)).1.2.1 (rSt J (i + 1) (s, lf, mv)).1.2.2 (by omega) j1
      refine ⟨q, r1, r2, r3, fun hq => ?_⟩
      obtain ⟨t1, t2⟩ := r4 hq
      refine ⟨t1, ?_⟩
      rcases j2 with ⟨u1, u2⟩ | ⟨u1, u2⟩
      · rw [u1] at t2
        rcases t2 with ⟨w1, w2⟩ | w
        · refine Or.inl ⟨w1, fun g ga gb => ?_⟩
          by_cases e : g = i + 1
          · rw [e]; exact u2
          · exact w2 g (by omega) gb
        · exact Or.inr w
      · rcases t2 with ⟨w1, _⟩ | ⟨w1, w2⟩
        · refine Or.inr ⟨?_, ?_⟩
          · rw [w1]; exact u1
          · rw [w1]; exact u2
        · exact Or.inr ⟨w1, Int.lt_trans w2 u2⟩
theorem ea_0 {s : tS} {lf : Nat → Int32} (hb : ∀ w, w < 27 → ∃ m, m ≤ 26 ∧ s.2 w = nI m) (h0 : ∀ g, 1 ≤ g → g ≤ c → lf g = 0) (mv : Bool) : ∀ k i, i + k = c → rEa J k i (s, lf, mv) = some ((s, lf, mv), true)
  | 0, i, hi => rfl
  | k + 1, i, hi => by
    have e : rSt J (i + 1) (s, lf, mv) = ((s, lf, mv), true) := by
      have z := h0 (i + 1) (by omega) (by omega)
      unfold rSt
      rw [if_neg (fun q => q.1 (by show (0 : Int32) ≤ lf (i + 1); rw [z]; decide)), if_neg (fun q => q.1 (by show lf (i + 1) ≤ (0 : Int32); rw [z]; decide))]
    unfold rEa
    rw [e]
    show (if tBb s.2 = false then none else if true = true then rEa J k (i + 1) (s, lf, mv) else some ((s, lf, mv), false)) = _
    rw [tBb_of hb, if_neg (by decide), if_pos rfl]
    exact ea_0 hb h0 mv k (i + 1) (by omega)
end MV2
