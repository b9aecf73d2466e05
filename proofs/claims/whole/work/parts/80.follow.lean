/-! As long as moves are left, one can be made; following a labelling, in class and reference. -/
theorem argm (F : Nat → Int) : ∀ n, 1 ≤ n → ∃ g, 1 ≤ g ∧ g ≤ n ∧ ∀ h, 1 ≤ h → h ≤ n → F g ≤ F h
  | 0, h => by omega
  | n + 1, _ => by
    by_cases e : n = 0
    · subst e
      exact ⟨1, by omega, by omega, fun h h1 h2 => by rw [show h = 1 from by omega]; exact Int.le_refl _⟩
    · obtain ⟨g, g1, g2, g3⟩ := argm F n (by omega)
      by_cases q : F g ≤ F (n + 1)
      · refine ⟨g, g1, by omega, fun h h1 h2 => ?_⟩
        by_cases e2 : h = n + 1
        · rw [e2]; exact q
        · exact g3 h h1 (by omega)
      · refine ⟨n + 1, by omega, by omega, fun h h1 h2 => ?_⟩
        by_cases e2 : h = n + 1
        · rw [e2]; exact Int.le_refl _
        · have := g3 h h1 (by omega); omega
section MV3
variable {c : Nat} {I : Nat → Nat → Int32} {L : Nat → Nat → Int64} {J : Nat → Nat → Int32} {f : Nat → Int32}
theorem Pns_of (R : Rel c I L J) (hs : sndB c I = true) : Pns c J := fun g g1 g2 k hk => by
  rw [snd_eq R] at hs
  unfold rSnd at hs
  rw [Bool.and_eq_true] at hs
  have h1 := allB_iff.mp hs.1 (g - 1) (by omega)
  rw [Bool.and_eq_true] at h1
  have h2 := h1.2
  unfold rPns at h2
  rw [show g - 1 + 1 = g from by omega] at h2
  have h3 := of_decide_eq_true (allB_iff.mp h2 k hk)
  rw [show 2 * g - 2 + k = 2 * (g - 1) + k from by omega]
  exact h3
theorem pos_is (R : Rel c I L J) (hs : sndB c I = true) : ∃ p : Nat → Int, (∀ g, 1 ≤ g → g ≤ c → 0 ≤ p g ∧ p g ≤ 11) ∧ ∀ w, w < 27 → ¬ J 3 w = 0 → 1 ≤ cSr J w → 1 ≤ gbf w → 1 ≤ 13 * (J 4 w).toInt + p (gbf w) - p (cSr J w) := by
  have hc := R.hc
  obtain ⟨pl, q1, q2, q3, q4⟩ := order_is R hs
  have hpos : ∃ pos : Nat → Nat, ∀ g, inV c g → pos g < c ∧ pl (pos g) = g := by
    refine ⟨fun g => if h : 1 ≤ g ∧ g ≤ c then Classical.choose (q2 g h.1 h.2) else 0, fun g hg => ?_⟩
    show (if h : 1 ≤ g ∧ g ≤ c then Classical.choose (q2 g h.1 h.2) else 0) < c ∧ pl (if h : 1 ≤ g ∧ g ≤ c then Classical.choose (q2 g h.1 h.2) else 0) = g
    rw [dif_pos (show 1 ≤ g ∧ g ≤ c from hg)]
    exact Classical.choose_spec (q2 g hg.1 hg.2)
  obtain ⟨pos, hpos⟩ := hpos
  refine ⟨fun g => (pos g : Int), fun g g1 g2 => ?_, fun w hw h0 hu1 hv1 => ?_⟩
  · have := (hpos g ⟨g1, g2⟩).1
    show 0 ≤ (pos g : Int) ∧ (pos g : Int) ≤ 11
    omega
  · show 1 ≤ 13 * (J 4 w).toInt + (pos (gbf w) : Int) - (pos (cSr J w) : Int)
    obtain ⟨s1, s2, s3, m, hm, em⟩ := wir R hw h0
    have h24 : w < 24 := by
      by_cases q : w < 24
      · exact q
      · unfold gbf at hv1; rw [if_pos (by omega)] at hv1; omega
    have e3 : J 3 w = nI (cSr J w) := by
      rcases s3 with ⟨_, q⟩ | ⟨q, _⟩
      · omega
      · exact q
    obtain ⟨pu1, pu2⟩ := hpos (cSr J w) ⟨hu1, s1⟩
    obtain ⟨pv1, pv2⟩ := hpos (gbf w) ⟨hv1, s2⟩
    rw [em, nI_toInt (by omega)]
    by_cases hr : m = 0
    · have hdep : depW c J (gbf w) (cSr J w) := by
        refine ⟨hu1, s1, w % 2, ?_, ?_, ?_⟩
        · have hp := pn_le (J 1) (gbf w)
          by_cases q : w % 2 < pn (J 1) (gbf w)
          · exact q
          · exfalso
            have e1 : pn (J 1) (gbf w) = 1 := by omega
            have := R.frp (gbf w) hv1 s2 e1
            rw [gbf_lt h24, show 2 * (w / 2 + 1) - 1 = w from by omega] at this
            exact h0 this
        · rw [gbf_lt h24, show 2 * (w / 2 + 1) - 2 + w % 2 = w from by omega, em, hr]
          rfl
        · rw [gbf_lt h24, show 2 * (w / 2 + 1) - 2 + w % 2 = w from by omega]
          exact e3
      rw [← pv2] at hdep
      obtain ⟨b, hb, eb⟩ := q4 _ _ pv1 hdep
      have : b = pos (cSr J w) := q3 b _ (by omega) pu1 (by rw [eb, pu2])
      omega
    · omega
theorem klive (R : Rel c I L J) (hs : sndB c I = true) (hl : Lgl c J f) {x : mS} {s : tS} {lf : Nat → Int32} (h : kJS c J f x s lf) (hne : ∃ g, 1 ≤ g ∧ g ≤ c ∧ ¬ lf g = 0) : ∃ g, 1 ≤ g ∧ g ≤ c ∧ cMv J s.2 lf g := by
  have hc := R.hc
  have hp := Pns_of R hs
  obtain ⟨p, p1, p2⟩ := pos_is R hs
  have hbd := JS_bd R hl h
  have z0 : (0 : Int32).toInt = 0 := rfl
  obtain ⟨g0, g01, g02, g03⟩ := hne
  have qb : ∀ g, 1 ≤ g → g ≤ c → -89 ≤ p g - 13 * (iv f g - iv lf g) ∧ p g - 13 * (iv f g - iv lf g) ≤ 89 := fun g g1 g2 => by
    have h1 := p1 g g1 g2
    have h2 := MI_dj h.2.2 g2
    have h3 := iv_b hl.1 g2
    omega
  have wr : ∀ w, w < 27 → ¬ J 3 w = 0 → s.2 w ≤ 0 → iv lf (cSr J w) ≤ iv lf (gbf w) ∧ (1 ≤ cSr J w → 1 ≤ gbf w → 1 ≤ (p (gbf w) - 13 * (iv f (gbf w) - iv lf (gbf w))) - (p (cSr J w) - 13 * (iv f (cSr J w) - iv lf (cSr J w)))) := fun w hw h0 hz => by
    obtain ⟨m, hm, em⟩ := hbd w hw
    have hm0 : m = 0 := by
      by_cases e : m = 0
      · exact e
      · rw [em] at hz; exact absurd hz (nI_nle (by omega) (by omega))
    have h1 := h.2.2.2.1 w hw h0
    rw [em, hm0, show (nI 0).toInt = 0 from rfl] at h1
    have h2 := (hl.2 w hw h0).1
    refine ⟨by omega, fun a b => ?_⟩
    have := p2 w hw h0 a b
    omega
  by_cases hneg : ∃ g, 1 ≤ g ∧ g ≤ c ∧ iv lf g < 0
  · obtain ⟨h0, h1, h2, h3⟩ := hneg
    obtain ⟨g, a1, a2, a3⟩ := argm (fun g => 1000 * iv lf g + (p g - 13 * (iv f g - iv lf g))) c (by omega)
    have a4 : 1000 * iv lf g + (p g - 13 * (iv f g - iv lf g)) ≤ 1000 * iv lf h0 + (p h0 - 13 * (iv f h0 - iv lf h0)) := a3 h0 h1 h2
    have b1 := qb g a1 a2
    have b2 := qb h0 h1 h2
    have hg : iv lf g < 0 := by omega
    refine ⟨g, a1, a2, Or.inl ⟨fun q => ?_, allB_iff.mpr (fun k hk => decide_eq_true (fun hz => ?_))⟩⟩
    · rw [Int32.le_iff_toInt_le, z0, ← iv_p (f := lf) a1] at q
      omega
    · have hpn := pn_12 (J 1) g
      have hw : 2 * g - 2 + k < 27 := by omega
      have h30 := hp g a1 a2 k hk
      have eg : gbf (2 * g - 2 + k) = g := by unfold gbf; rw [if_neg (by omega)]; omega
      obtain ⟨w1, w2⟩ := wr _ hw h30 hz
      rw [eg] at w1 w2
      obtain ⟨s1, _⟩ := wir R hw h30
      by_cases u0 : cSr J (2 * g - 2 + k) = 0
      · rw [u0, iv_0] at w1; omega
      · have w3 := w2 (by omega) a1
        have a5 : 1000 * iv lf g + (p g - 13 * (iv f g - iv lf g)) ≤ 1000 * iv lf (cSr J (2 * g - 2 + k)) + (p (cSr J (2 * g - 2 + k)) - 13 * (iv f (cSr J (2 * g - 2 + k)) - iv lf (cSr J (2 * g - 2 + k)))) := a3 _ (by omega) s1
        omega
  · have hnn : ∀ g, 1 ≤ g → g ≤ c → 0 ≤ iv lf g := fun g g1 g2 => by
      by_cases q : iv lf g < 0
      · exact absurd ⟨g, g1, g2, q⟩ hneg
      · omega
    have h3 : 0 < iv lf g0 := by
      have h4 := hnn g0 g01 g02
      have : iv lf g0 ≠ 0 := fun q => g03 (Int32.toInt_inj.mp (by rw [← iv_p (f := lf) g01, q]; rfl))
      omega
    obtain ⟨g, a1, a2, a3⟩ := argm (fun g => - (1000 * iv lf g + (p g - 13 * (iv f g - iv lf g)))) c (by omega)
    have a4 : - (1000 * iv lf g + (p g - 13 * (iv f g - iv lf g))) ≤ - (1000 * iv lf g0 + (p g0 - 13 * (iv f g0 - iv lf g0))) := a3 g0 g01 g02
    have b1 := qb g a1 a2
    have b2 := qb g0 g01 g02
    have hg : 0 < iv lf g := by omega
    refine ⟨g, a1, a2, Or.inr ⟨fun q => ?_, allB_iff.mpr (fun w hw => decide_eq_true ?_)⟩⟩
    · rw [Int32.le_iff_toInt_le, z0, ← iv_p (f := lf) a1] at q
      omega
    · by_cases e3 : J 3 w = nI g
      · refine Or.inr (fun hz => ?_)
        have h30 : ¬ J 3 w = 0 := by rw [e3]; exact nI_ne0 (by omega) (by omega)
        obtain ⟨s1, s2, s3, _⟩ := wir R hw h30
        have eg : cSr J w = g := by
          rcases s3 with ⟨q, _⟩ | ⟨q, _⟩
          · rw [e3] at q; exact absurd q (nI_nle (by omega) (by omega))
          · rw [e3] at q; exact ((nI_eq (by omega) (by omega)).mp q).symm
        obtain ⟨w1, w2⟩ := wr _ hw h30 hz
        rw [eg] at w1 w2
        by_cases v0 : gbf w = 0
        · rw [v0, iv_0] at w1; omega
        · have w3 := w2 a1 (by omega)
          have a5 : - (1000 * iv lf g + (p g - 13 * (iv f g - iv lf g))) ≤ - (1000 * iv lf (gbf w) + (p (gbf w) - 13 * (iv f (gbf w) - iv lf (gbf w)))) := a3 _ (by omega) s2
          omega
      · exact Or.inl e3
theorem tot_nn (lf : Nat → Int32) : ∀ n, 0 ≤ sI (aI lf) n
  | 0 => Int.le_refl _
  | n + 1 => by
    have h1 := tot_nn lf n
    have h2 : 0 ≤ aI lf (n + 1) := by unfold aI; split <;> omega
    show 0 ≤ sI (aI lf) n + aI lf (n + 1)
    omega
theorem fo_2 (R : Rel c I L J) (hs : sndB c I = true) (hl : Lgl c J f) : ∀ (n n2 : Nat) (x : mS) (s : tS) (lf : Nat → Int32), kJS c J f x s lf → tot c lf < n → n < n2 → ∃ q, rFo c J n2 (s, lf, true) = some q ∧ q.2 = (mRun (I 10) (I 12) c n x).2 ∧ ((∀ g, 1 ≤ g → g ≤ c → (f g).toInt ≤ 0) → q.2 = true) ∧ (q.2 = true → kJS c J f (mRun (I 10) (I 12) c n x).1 q.1.1 q.1.2.1 ∧ ∀ g, 1 ≤ g → g ≤ c → q.1.2.1 g = 0)
  | 0, n2, x, s, lf, h, ht, hn => by
    have : 0 ≤ tot c lf := tot_nn lf c
    omega
  | n + 1, n2, x, s, lf, h, ht, hn => by
    obtain ⟨n3, rfl⟩ : ∃ n3, n2 = n3 + 1 := ⟨n2 - 1, by omega⟩
    unfold rFo mRun
    show ∃ q, (if true = false then _ else match rEa J c 0 (s, lf, false) with | none => none | some q => if q.2 = true then rFo c J n3 q.1 else some q) = some q ∧ _
    rw [if_neg (by decide)]
    by_cases hd : ∀ g, 1 ≤ g → g ≤ c → lf g = 0
    · have e1 : mDone c x.2 = true := allB_iff.mpr (fun i hi => decide_eq_true (by rw [h.2.1 (i + 1) (by omega) (by omega)]; exact hd (i + 1) (by omega) (by omega)))
      rw [if_pos e1, ea_0 (JS_bd R hl h) hd false c 0 (by omega)]
      obtain ⟨n4, rfl⟩ : ∃ n4, n3 = n4 + 1 := ⟨n3 - 1, by omega⟩
      show ∃ q, (if true = true then rFo c J (n4 + 1) (s, lf, false) else some ((s, lf, false), true)) = some q ∧ _
      rw [if_pos rfl]
      refine ⟨((s, lf, false), true), ?_, rfl, fun _ => rfl, fun _ => ⟨h, hd⟩⟩
      unfold rFo
      rfl
    · have e1 : ¬ mDone c x.2 = true := fun q => hd (fun g g1 g2 => by
        have := of_decide_eq_true (allB_iff.mp q (g - 1) (by omega))
        rw [show g - 1 + 1 = g from by omega, h.2.1 g g1 g2] at this
        exact this)
      have hne : ∃ g, 1 ≤ g ∧ g ≤ c ∧ ¬ lf g = 0 := Classical.byContradiction (fun q => hd (fun g g1 g2 => Classical.byContradiction (fun q2 => q ⟨g, g1, g2, q2⟩)))
      obtain ⟨gl, gl1, gl2, gl3⟩ := klive R hs hl h hne
      rw [if_neg e1]
      obtain ⟨q, r1, r2, r3, r4⟩ := ea_2 R (Pns_of R hs) hl c 0 x s lf false (by omega) h
      rw [r1]
      have r2 : q.2 = (mEach (I 10) (I 12) c x).2 := r2
      have r4 : q.2 = true → kJS c J f (mEach (I 10) (I 12) c x).1 q.1.1 q.1.2.1 ∧ ((q.1 = (s, lf, false) ∧ ∀ g, 0 < g → g ≤ c → ¬ cMv J s.2 lf g) ∨ (q.1.2.2 = true ∧ tot c q.1.2.1 < tot c lf)) := r4
      rw [← r2]
      show ∃ q2, (if q.2 = true then rFo c J n3 q.1 else some q) = some q2 ∧ _
      cases hq : q.2 with
      | false =>
        rw [if_neg Bool.false_ne_true, if_neg Bool.false_ne_true]
        refine ⟨q, rfl, hq, r3, fun z => ?_⟩
        rw [hq] at z
        exact Bool.noConfusion z
      | true =>
        rw [if_pos rfl, if_pos rfl]
        obtain ⟨t1, t2⟩ := r4 hq
        rcases t2 with ⟨_, u2⟩ | ⟨u1, u2⟩
        · exact absurd gl3 (u2 gl (by omega) gl2)
        · have eq1 : q.1 = (q.1.1, q.1.2.1, true) := by rw [← u1]
          rw [eq1]
          exact fo_2 R hs hl n n3 _ q.1.1 q.1.2.1 t1 (by omega) (by omega)
end MV3
