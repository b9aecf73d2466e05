/-! One move over a gate, in class and reference. -/
section MV1
variable {c : Nat} {I : Nat → Nat → Int32} {L : Nat → Nat → Int64} {J : Nat → Nat → Int32}
theorem fl_2 (hsr : ∀ w, w < 27 → I 12 w = J 3 w) {g n : Nat} (hn : n ≤ 2) {b : bS} {s : tS} (h : BR b s) (hb : ∀ w, w < 27 → ∃ m, m < 31 ∧ s.2 w = nI m) : ∀ i, i ≤ 27 → BR (lp (fun w b => if ¬ I 12 w = nI g then b else bPu b w (nI n)) i b) (lp (rOw J g (nI n)) i s) ∧ ∀ w, (lp (rOw J g (nI n)) i s).2 w = if w < i ∧ J 3 w = nI g then s.2 w + 1 else s.2 w
  | 0, _ => ⟨h, fun w => by rw [if_neg (fun q => absurd q.1 (Nat.not_lt_zero _))]; rfl⟩
  | i + 1, hi => by
    obtain ⟨h1, h2⟩ := fl_2 hsr hn h hb i (by omega)
    have e1 : lp (fun w b => if ¬ I 12 w = nI g then b else bPu b w (nI n)) (i + 1) b = (fun w b => if ¬ I 12 w = nI g then b else bPu b w (nI n)) i (lp (fun w b => if ¬ I 12 w = nI g then b else bPu b w (nI n)) i b) := rfl
    have e2 : lp (rOw J g (nI n)) (i + 1) s = rOw J g (nI n) i (lp (rOw J g (nI n)) i s) := rfl
    rw [e1, e2]
    generalize lp (fun w b => if ¬ I 12 w = nI g then b else bPu b w (nI n)) i b = b1 at h1 ⊢
    generalize lp (rOw J g (nI n)) i s = s1 at h1 h2 ⊢
    show BR (if ¬ I 12 i = nI g then b1 else bPu b1 i (nI n)) (rOw J g (nI n) i s1) ∧ _
    unfold rOw
    rw [hsr i (by omega)]
    by_cases q : J 3 i = nI g
    · rw [if_neg (not_not_intro q), if_pos q]
      obtain ⟨m, hm, em⟩ := hb i (by omega)
      have em2 : s1.2 i = nI m := by rw [h2, if_neg (fun q => absurd q.1 (Nat.lt_irrefl _))]; exact em
      obtain ⟨r1, r2⟩ := BR_pu h1 (by omega) em2 hm hn
      refine ⟨r1, fun w => ?_⟩
      show upd s1.2 i (s1.2 i + 1) w = _
      by_cases e : w = i
      · subst e
        rw [pk_us, if_pos ⟨by omega, q⟩, em2, em]
      · rw [pk_un e, h2]
        by_cases q2 : w < i ∧ J 3 w = nI g
        · rw [if_pos q2, if_pos ⟨by omega, q2.2⟩]
        · rw [if_neg q2, if_neg (fun q3 => q2 ⟨by omega, q3.2⟩)]
    · rw [if_pos q, if_neg q]
      refine ⟨h1, fun w => ?_⟩
      rw [h2]
      by_cases q2 : w < i ∧ J 3 w = nI g
      · rw [if_pos q2, if_pos ⟨by omega, q2.2⟩]
      · rw [if_neg q2, if_neg (fun q3 => ?_)]
        by_cases e : w = i
        · rw [e] at q3; exact q q3.2
        · exact q2 ⟨by omega, q3.2⟩
/-- pin of a gate; wire out of a gate -/
def iP (J : Nat → Nat → Int32) (g w : Nat) : Int := if 2 * g - 2 ≤ w ∧ w < 2 * g - 2 + pn (J 1) g then 1 else 0
def iQ (J : Nat → Nat → Int32) (g w : Nat) : Int := if J 3 w = nI g then 1 else 0
theorem pn_12 (kd : Nat → Int32) (g : Nat) : pn kd g = 1 ∨ pn kd g = 2 := by unfold pn; split <;> simp
theorem nI_s {m : Nat} (h : m ≤ 100) : (nI m + 1).toInt = (nI m).toInt + 1 := by rw [← nI_succ, nI_toInt (by omega), nI_toInt (by omega)]; omega
theorem fwd_2 (R : Rel c I L J) {g : Nat} (g1 : 1 ≤ g) (g2 : g ≤ c) {b : bS} {s : tS} (h : BR b s) (hb : ∀ w, w < 27 → ∃ m, m ≤ 26 ∧ s.2 w = nI m) (hcf : rCF (J 1) s.2 g = true) : BR (mFwd (I 10) (I 12) g b) (rFwd J g s) ∧ ∀ w, w < 27 → ((rFwd J g s).2 w).toInt = (s.2 w).toInt - iP J g w + iQ J g w := by
  have hc := R.hc
  have ekd := R.kd g (by omega)
  obtain ⟨kk, hkk, ekk⟩ := R.kdb g (by omega)
  have hpn : pn (I 10) g = pn (J 1) g := pn_eq ekd
  have pos : ∀ k, k < pn (J 1) g → ∃ m, m + 1 ≤ 26 ∧ s.2 (2 * g - 2 + k) = nI (m + 1) := fun k hk => by
    have hk2 := pn_12 (J 1) g
    obtain ⟨m, hm, em⟩ := hb (2 * g - 2 + k) (by omega)
    have q := of_decide_eq_true (allB_iff.mp hcf k hk)
    rw [em] at q
    have : m ≠ 0 := fun e => q (by rw [e]; decide)
    exact ⟨m - 1, by omega, by rw [em, show m - 1 + 1 = m from by omega]⟩
  obtain ⟨m0, hm0, em0⟩ := pos 0 (by have := pn_12 (J 1) g; omega)
  rw [Nat.add_zero] at em0
  obtain ⟨B1, M1, v1, n1, hn1, en1⟩ := BR_tk h (by omega) em0 (by omega)
  have fin : ∀ (b2 : bS) (s2 : tS) (n : Nat), n ≤ 2 → BR b2 s2 → (∀ w, w < 27 → ∃ m, m ≤ 26 ∧ s2.2 w = nI m) → (∀ w, w < 27 → (s2.2 w).toInt = (s.2 w).toInt - iP J g w) → BR (fLast (I 12) g (nI n) b2) (lp (rOw J g (nI n)) 27 s2) ∧ ∀ w, w < 27 → ((lp (rOw J g (nI n)) 27 s2).2 w).toInt = (s.2 w).toInt - iP J g w + iQ J g w := fun b2 s2 n hn hB hb2 hM => by
    obtain ⟨r1, r2⟩ := fl_2 (I := I) (g := g) R.fr hn hB (fun w hw => by obtain ⟨m, hm, em⟩ := hb2 w hw; exact ⟨m, by omega, em⟩) 27 (Nat.le_refl _)
    refine ⟨r1, fun w hw => ?_⟩
    rw [r2, ← hM w hw]
    unfold iQ
    by_cases q : J 3 w = nI g
    · rw [if_pos ⟨hw, q⟩, if_pos q]
      obtain ⟨m, hm, em⟩ := hb2 w hw
      rw [em, nI_s (by omega)]
    · rw [if_neg (fun q2 => q q2.2), if_neg q]; omega
  unfold mFwd rFwd
  rw [hpn]
  rcases pn_12 (J 1) g with p1 | p2
  · have e2 : rF2 J g s = (rPul (2 * g - 2) s, s.1 (40 * (2 * g - 2)), 2) := by unfold rF2; rw [if_neg (by omega)]
    rw [e2, if_pos (by rw [p1]; decide)]
    show BR (fLast (I 12) g (gMade (I 10 g) (bRd (b.2 (2 * g - 2)) 0) 2) (bTk b (2 * g - 2))) (lp (rOw J g (rMade (J 1 g) (s.1 (40 * (2 * g - 2))) 2)) 27 (rPul (2 * g - 2) s)) ∧ ∀ w, w < 27 → ((lp (rOw J g (rMade (J 1 g) (s.1 (40 * (2 * g - 2))) 2)) 27 (rPul (2 * g - 2) s)).2 w).toInt = _
    obtain ⟨n, hn, en, en2⟩ := made_2 hkk hn1 (show 2 ≤ 2 by omega)
    rw [ekd, v1, en1, ekk, show (2 : Int32) = nI 2 from rfl, en, en2]
    refine fin _ _ n hn B1 (fun w hw => ?_) (fun w hw => ?_)
    · rw [M1]
      by_cases e : w = 2 * g - 2
      · rw [if_pos e]; exact ⟨m0, by omega, rfl⟩
      · rw [if_neg e]; exact hb w hw
    · rw [M1]
      unfold iP
      rw [p1]
      by_cases e : w = 2 * g - 2
      · rw [if_pos e, if_pos (by omega), e, em0, nI_toInt (by omega), nI_toInt (by omega)]; omega
      · rw [if_neg e, if_neg (by omega)]; omega
  · have e2 : rF2 J g s = (rPul (2 * g - 1) (rPul (2 * g - 2) s), s.1 (40 * (2 * g - 2)), (rPul (2 * g - 2) s).1 (40 * (2 * g - 1))) := by unfold rF2; rw [if_pos p2]
    have ep : 2 * g - 2 + 1 = 2 * g - 1 := by omega
    rw [e2, if_neg (by rw [p2]; decide), ep]
    obtain ⟨m1, hm1, em1⟩ := pos 1 (by omega)
    rw [ep] at em1
    have em1' : (rPul (2 * g - 2) s).2 (2 * g - 1) = nI (m1 + 1) := by rw [M1, if_neg (by omega)]; exact em1
    obtain ⟨B2, M2, v2, n2, hn2, en2⟩ := BR_tk B1 (show 2 * g - 1 < 27 by omega) em1' (by omega)
    show BR (fLast (I 12) g (gMade (I 10 g) (bRd (b.2 (2 * g - 2)) 0) (bRd ((bTk b (2 * g - 2)).2 (2 * g - 1)) 0)) (bTk (bTk b (2 * g - 2)) (2 * g - 1))) (lp (rOw J g (rMade (J 1 g) (s.1 (40 * (2 * g - 2))) ((rPul (2 * g - 2) s).1 (40 * (2 * g - 1))))) 27 (rPul (2 * g - 1) (rPul (2 * g - 2) s))) ∧ ∀ w, w < 27 → ((lp (rOw J g (rMade (J 1 g) (s.1 (40 * (2 * g - 2))) ((rPul (2 * g - 2) s).1 (40 * (2 * g - 1))))) 27 (rPul (2 * g - 1) (rPul (2 * g - 2) s))).2 w).toInt = _
    obtain ⟨n, hn, en, en3⟩ := made_2 hkk hn1 hn2
    rw [ekd, v1, v2, en1, en2, ekk, en, en3]
    refine fin _ _ n hn B2 (fun w hw => ?_) (fun w hw => ?_)
    · rw [M2]
      by_cases e : w = 2 * g - 1
      · rw [if_pos e]; exact ⟨m1, by omega, rfl⟩
      · rw [if_neg e, M1]
        by_cases e : w = 2 * g - 2
        · rw [if_pos e]; exact ⟨m0, by omega, rfl⟩
        · rw [if_neg e]; exact hb w hw
    · rw [M2]
      unfold iP
      rw [p2]
      by_cases e : w = 2 * g - 1
      · rw [if_pos e, if_pos (by omega), e, em1, nI_toInt (by omega), nI_toInt (by omega)]; omega
      · rw [if_neg e, M1]
        by_cases e2 : w = 2 * g - 2
        · rw [if_pos e2, if_pos (by omega), e2, em0, nI_toInt (by omega), nI_toInt (by omega)]; omega
        · rw [if_neg e2, if_neg (by omega)]; omega
theorem tk_2 (hsr : ∀ w, w < 27 → I 12 w = J 3 w) {g : Nat} {b : bS} {s : tS} (h : BR b s) (hb : ∀ w, w < 27 → ∃ m, m ≤ 26 ∧ s.2 w = nI m) (hcb : rCB (J 3) s.2 g = true) : ∀ i, i ≤ 27 → ∃ b1, lp (fun w s => if ¬ I 12 w = nI g then s else (gJn s.1 (bRd (s.2.2 w) (s.2.1 w - 1)), bTs s.2 w)) i ((2 : Int32), b) = (nI (kjV (lp (rBw J g s.1) i (s.2, false, false)).2.1 (lp (rBw J g s.1) i (s.2, false, false)).2.2), b1) ∧ BR b1 (s.1, (lp (rBw J g s.1) i (s.2, false, false)).1) ∧ ∀ w, (lp (rBw J g s.1) i (s.2, false, false)).1 w = if w < i ∧ J 3 w = nI g then s.2 w - 1 else s.2 w
  | 0, _ => ⟨b, rfl, h, fun w => by rw [if_neg (fun q => absurd q.1 (Nat.not_lt_zero _))]; rfl⟩
  | i + 1, hi => by
    obtain ⟨b1, e0, h1, h2⟩ := tk_2 hsr h hb hcb i (by omega)
    have e1 : lp (fun w s => if ¬ I 12 w = nI g then s else (gJn s.1 (bRd (s.2.2 w) (s.2.1 w - 1)), bTs s.2 w)) (i + 1) ((2 : Int32), b) = (fun w (s : Int32 × bS) => if ¬ I 12 w = nI g then s else (gJn s.1 (bRd (s.2.2 w) (s.2.1 w - 1)), bTs s.2 w)) i (lp (fun w s => if ¬ I 12 w = nI g then s else (gJn s.1 (bRd (s.2.2 w) (s.2.1 w - 1)), bTs s.2 w)) i ((2 : Int32), b)) := rfl
    have e2 : lp (rBw J g s.1) (i + 1) (s.2, false, false) = rBw J g s.1 i (lp (rBw J g s.1) i (s.2, false, false)) := rfl
    rw [e1, e2, e0]
    generalize lp (rBw J g s.1) i (s.2, false, false) = t at h1 h2 ⊢
    show ∃ b2, (if ¬ I 12 i = nI g then (nI (kjV t.2.1 t.2.2), b1) else (gJn (nI (kjV t.2.1 t.2.2)) (bRd (b1.2 i) (b1.1 i - 1)), bTs b1 i)) = _ ∧ _
    unfold rBw
    rw [hsr i (by omega)]
    by_cases q : J 3 i = nI g
    · rw [if_neg (not_not_intro q), if_pos q]
      obtain ⟨m, hm, em⟩ := hb i (by omega)
      have hpos := of_decide_eq_true (allB_iff.mp hcb i (by omega))
      have hm0 : m ≠ 0 := fun e => by
        rcases hpos with p | p
        · exact p q
        · exact p (by rw [em, e]; decide)
      obtain ⟨m2, rfl⟩ : ∃ m2, m = m2 + 1 := ⟨m - 1, by omega⟩
      have em2 : t.1 i = nI (m2 + 1) := by rw [h2, if_neg (fun q => absurd q.1 (Nat.lt_irrefl _))]; exact em
      obtain ⟨r1, r2, r3, n, hn, en⟩ := BR_ts h1 (w := i) (by omega) em2 (by omega)
      have eT : s.1 (40 * i + (t.1 i - 1).toNatClampNeg) = nI n := by rw [em2, nI_pred, nI_clamp (by omega)]; exact en
      refine ⟨bTs b1 i, ?_, r1, fun w => ?_⟩
      · rw [r3, eT]
        show (gJn (nI (kjV t.2.1 t.2.2)) (s.1 (40 * i + m2)), bTs b1 i) = _
        rw [show s.1 (40 * i + m2) = nI n from en, join_2 _ _ hn]
      · show upd t.1 i (t.1 i - 1) w = _
        by_cases e : w = i
        · subst e
          rw [pk_us, if_pos ⟨by omega, q⟩, em2, em]
        · rw [pk_un e, h2]
          by_cases q2 : w < i ∧ J 3 w = nI g
          · rw [if_pos q2, if_pos ⟨by omega, q2.2⟩]
          · rw [if_neg q2, if_neg (fun q3 => q2 ⟨by omega, q3.2⟩)]
    · rw [if_pos q, if_neg q]
      refine ⟨b1, rfl, h1, fun w => ?_⟩
      rw [h2]
      by_cases q2 : w < i ∧ J 3 w = nI g
      · rw [if_pos q2, if_pos ⟨by omega, q2.2⟩]
      · rw [if_neg q2, if_neg (fun q3 => ?_)]
        by_cases e : w = i
        · rw [e] at q3; exact q q3.2
        · exact q2 ⟨by omega, q3.2⟩
theorem bwd_2 (R : Rel c I L J) {g : Nat} (g1 : 1 ≤ g) (g2 : g ≤ c) {b : bS} {s : tS} (h : BR b s) (hb : ∀ w, w < 27 → ∃ m, m ≤ 26 ∧ s.2 w = nI m) (hcb : rCB (J 3) s.2 g = true) : (mBwd (I 10) (I 12) g b).2 = (rBwd J g s).2 ∧ ((rBwd J g s).2 = true → BR (mBwd (I 10) (I 12) g b).1 (rBwd J g s).1 ∧ ∀ w, w < 27 → ((rBwd J g s).1.2 w).toInt = (s.2 w).toInt + iP J g w - iQ J g w) := by
  have hc := R.hc
  have ekd := R.kd g (by omega)
  obtain ⟨kk, hkk, ekk⟩ := R.kdb g (by omega)
  have hpn : pn (I 10) g = pn (J 1) g := pn_eq ekd
  obtain ⟨b1, e0, h1, h2⟩ := tk_2 (I := I) (g := g) R.fr h hb hcb 27 (Nat.le_refl _)
  have ek : kTake (I 12) g (2, b) = (nI (kjV (rBq J g s).2.1 (rBq J g s).2.2), b1) := e0
  have h1 : BR b1 (s.1, (rBq J g s).1) := h1
  have h2 : ∀ w, (rBq J g s).1 w = if w < 27 ∧ J 3 w = nI g then s.2 w - 1 else s.2 w := h2
  have hM1 : ∀ w, w < 27 → ∃ m, m ≤ 26 ∧ (rBq J g s).1 w = nI m ∧ (m : Int) = (s.2 w).toInt - iQ J g w := fun w hw => by
    obtain ⟨m, hm, em⟩ := hb w hw
    have hpos := of_decide_eq_true (allB_iff.mp hcb w hw)
    rw [h2]
    unfold iQ
    by_cases q : J 3 w = nI g
    · rw [if_pos ⟨hw, q⟩, if_pos q]
      have hm0 : m ≠ 0 := fun e => by
        rcases hpos with p | p
        · exact p q
        · exact p (by rw [em, e]; decide)
      obtain ⟨m2, rfl⟩ : ∃ m2, m = m2 + 1 := ⟨m - 1, by omega⟩
      exact ⟨m2, by omega, by rw [em, nI_pred], by rw [em, nI_toInt (by omega)]; omega⟩
    · rw [if_neg (fun q2 => q q2.2), if_neg q]
      exact ⟨m, hm, em, by rw [em, nI_toInt (by omega)]; omega⟩
  unfold mBwd rBwd
  rw [ek]
  generalize rBq J g s = t at h1 h2 hM1 ⊢
  show (if ¬ nI (kjV t.2.1 t.2.2) = 3 then (kPut (I 10) g (nI (kjV t.2.1 t.2.2)) b1, true) else (b1, false)).2 = !(t.2.1 && t.2.2) ∧ ((!(t.2.1 && t.2.2)) = true → _)
  by_cases cf : t.2.1 = true ∧ t.2.2 = true
  · rw [cf.1, cf.2]
    refine ⟨rfl, fun q => absurd q (by decide)⟩
  · have hv : kjV t.2.1 t.2.2 ≤ 2 ∧ rBv t.2.1 t.2.2 = nI (kjV t.2.1 t.2.2) := by
      cases hz : t.2.1 <;> cases ho : t.2.2
      · exact ⟨by decide, rfl⟩
      · exact ⟨by decide, rfl⟩
      · exact ⟨by decide, rfl⟩
      · exact absurd ⟨hz, ho⟩ cf
    have hn3 : ¬ nI (kjV t.2.1 t.2.2) = 3 := fun q => by
      have := (nI_eq (b := 3) (by omega) (by decide)).mp q
      omega
    have hok : (!(t.2.1 && t.2.2)) = true := by
      cases hz : t.2.1 <;> cases ho : t.2.2
      · rfl
      · rfl
      · rfl
      · exact absurd ⟨hz, ho⟩ cf
    rw [if_pos hn3, hok]
    refine ⟨rfl, fun _ => ?_⟩
    obtain ⟨hv1, hv2⟩ := hv
    rw [hv2]
    generalize kjV t.2.1 t.2.2 = v at hv1
    obtain ⟨na, hna, ea1, ea2⟩ := need_a (v := v) hkk hv1
    obtain ⟨m0, hm0, em0, f0⟩ := hM1 (2 * g - 2) (by omega)
    obtain ⟨r1, r2⟩ := BR_pk h1 (w := 2 * g - 2) (n := na) (by omega) em0 (by omega) hna
    show BR (kPut (I 10) g (nI v) b1) (rBt J g (rBa (J 1 g) (nI v)) (rBb (J 1 g) (nI v)) (s.1, t.1)) ∧ ∀ w, w < 27 → ((rBt J g (rBa (J 1 g) (nI v)) (rBb (J 1 g) (nI v)) (s.1, t.1)).2 w).toInt = _
    unfold kPut rBt
    rw [hpn, ekd, ekk, ea2]
    rcases pn_12 (J 1) g with p1 | p2
    · rw [p1, if_neg (by decide)]
      show BR (bPk b1 (2 * g - 2 + 0) (gNeed (nI kk) (nI 0) (nI v))) _ ∧ _
      rw [ea1, Nat.add_zero]
      refine ⟨r1, fun w hw => ?_⟩
      rw [r2]
      unfold iP
      rw [p1]
      by_cases e : w = 2 * g - 2
      · rw [if_pos e, if_pos (by omega), e, nI_toInt (by omega)]; omega
      · rw [if_neg e, if_neg (by omega)]
        obtain ⟨m, hm, em, fm⟩ := hM1 w hw
        show (t.1 w).toInt = _
        rw [em, nI_toInt (by omega)]; omega
    · have ep : 2 * g - 2 + 1 = 2 * g - 1 := by omega
      have hk2 : 2 ≤ kk := by
        unfold pn at p2
        by_cases q : 1 < J 1 g
        · rw [ekk] at q
          have := (nI_ltI (a := 1) (by decide) (by omega)).mp q
          omega
        · rw [if_neg q] at p2; omega
      obtain ⟨nb, hnb, eb1, eb2⟩ := need_b (v := v) hkk hk2 hv1
      rw [p2, if_pos rfl, eb2]
      show BR (bPk (bPk b1 (2 * g - 2 + 0) (gNeed (nI kk) (nI 0) (nI v))) (2 * g - 2 + 1) (gNeed (nI kk) (nI 1) (nI v))) _ ∧ _
      rw [ea1, eb1, Nat.add_zero, ep]
      obtain ⟨m1, hm1, em1, f1⟩ := hM1 (2 * g - 1) (by omega)
      obtain ⟨r3, r4⟩ := BR_pk r1 (w := 2 * g - 1) (n := nb) (m := m1) (by omega) (by rw [r2, if_neg (by omega)]; exact em1) (by omega) hnb
      refine ⟨r3, fun w hw => ?_⟩
      rw [r4]
      unfold iP
      rw [p2]
      by_cases e : w = 2 * g - 1
      · rw [if_pos e, if_pos (by omega), e, nI_toInt (by omega)]; omega
      · rw [if_neg e, r2]
        by_cases e2 : w = 2 * g - 2
        · rw [if_pos e2, if_pos (by omega), e2, nI_toInt (by omega)]; omega
        · rw [if_neg e2, if_neg (by omega)]
          obtain ⟨m, hm, em, fm⟩ := hM1 w hw
          show (t.1 w).toInt = _
          rw [em, nI_toInt (by omega)]; omega
end MV1
