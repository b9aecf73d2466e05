/-! Class and reference agree: tick. -/
section TCS
variable {c : Nat} {fil : Int32} {I : Nat → Nat → Int32} {L : Nat → Nat → Int64} {J : Nat → Nat → Int32} {a b d : Int32}
theorem in_eq (R : Rel c I L J) {V f : Nat → Int32} (h2 : V 2 = a) (h1 : V 1 = b) (h0 : V 0 = d) {w : Nat} (hw : w < 27) (hn : ¬ J 3 w = 0) (hf : ∀ g, 1 ≤ g → g ≤ c → V (3 + g) = f g) (ha : d3 a) (hb : d3 b) (hd : d3 d) (hfd : ∀ g, 1 ≤ g → g ≤ c → d3 (f g)) : V (3 + I 12 w).toNatClampNeg = rIn f (J 3 w) a b d ∧ d3 (rIn f (J 3 w) a b d) := by
  have hc := R.hc
  rw [R.fr w hw]
  unfold rIn
  rcases R.frb w hw with (e | e | e) | ⟨g, hg, e⟩
  · rw [e, if_neg (not_not_intro rfl)]; exact ⟨h2, ha⟩
  · rw [e, if_pos (by decide), if_neg (not_not_intro rfl)]; exact ⟨h1, hb⟩
  · rw [e, if_pos (by decide), if_pos (by decide), if_neg (not_not_intro rfl)]; exact ⟨h0, hd⟩
  · have g1 : 1 ≤ g := by
      by_cases e2 : g = 0
      · subst e2; exact absurd e hn
      · omega
    have hneg : ∀ x : Int32, x < 0 → ¬ nI g = x := fun x hx q => nI_pos (n := g) (by omega) (by rw [q]; exact hx)
    rw [e, if_pos (hneg _ (by decide)), if_pos (hneg _ (by decide)), if_pos (hneg _ (by decide)), nI_clamp (by omega), show (3 : Int32) = nI 3 from rfl, nI_add, nI_clamp (by omega)]
    exact ⟨hf g g1 hg, hfd g g1 hg⟩
/-- the class's shift -/
theorem cSh_is {sr V ln : Nat → Int32} {vl : Nat → Int64} (hl : ∀ w, w < 27 → ∃ m, m ≤ 20 ∧ ln w = nI m) : ∀ n, n ≤ 27 → (∀ w, w < 27 → (lp (fun w b => if b.1 w ≤ 0 then b else bPu (bTk b w) w (V (3 + sr w).toNatClampNeg)) n ((ln, vl) : bS)).1 w = ln w) ∧ (∀ w, w < 27 → (lp (fun w b => if b.1 w ≤ 0 then b else bPu (bTk b w) w (V (3 + sr w).toNatClampNeg)) n ((ln, vl) : bS)).2 w = if w < n ∧ ¬ ln w ≤ 0 then bWr (bSh (vl w)) (ln w - 1) (V (3 + sr w).toNatClampNeg) else vl w) := by
  intro n
  induction n with
  | zero => intro _; exact ⟨fun w _ => rfl, fun w _ => by rw [if_neg (fun q => Nat.not_lt_zero _ q.1)]; rfl⟩
  | succ n ih =>
    intro hn
    obtain ⟨i1, i2⟩ := ih (by omega)
    have hstep : ∀ w, w < 27 → ((fun w (b : bS) => if b.1 w ≤ 0 then b else bPu (bTk b w) w (V (3 + sr w).toNatClampNeg)) n (lp (fun w b => if b.1 w ≤ 0 then b else bPu (bTk b w) w (V (3 + sr w).toNatClampNeg)) n ((ln, vl) : bS))).1 w = ln w ∧ ((fun w (b : bS) => if b.1 w ≤ 0 then b else bPu (bTk b w) w (V (3 + sr w).toNatClampNeg)) n (lp (fun w b => if b.1 w ≤ 0 then b else bPu (bTk b w) w (V (3 + sr w).toNatClampNeg)) n ((ln, vl) : bS))).2 w = if w < n + 1 ∧ ¬ ln w ≤ 0 then bWr (bSh (vl w)) (ln w - 1) (V (3 + sr w).toNatClampNeg) else vl w := by
      generalize lp (fun w b => if b.1 w ≤ 0 then b else bPu (bTk b w) w (V (3 + sr w).toNatClampNeg)) n ((ln, vl) : bS) = t at i1 i2 ⊢
      intro w hw
      show (if t.1 n ≤ 0 then t else bPu (bTk t n) n (V (3 + sr n).toNatClampNeg)).1 w = ln w ∧ (if t.1 n ≤ 0 then t else bPu (bTk t n) n (V (3 + sr n).toNatClampNeg)).2 w = _
      rw [i1 n (by omega)]
      obtain ⟨m, hm, em⟩ := hl n (by omega)
      by_cases q : ln n ≤ 0
      · rw [if_pos q]
        refine ⟨i1 w hw, ?_⟩
        rw [i2 w hw]
        by_cases e : w = n
        · subst e
          rw [if_neg (fun x => x.2 q), if_neg (fun x => x.2 q)]
        · by_cases e2 : w < n ∧ ¬ ln w ≤ 0
          · rw [if_pos e2, if_pos ⟨by omega, e2.2⟩]
          · rw [if_neg e2, if_neg (fun x => e2 ⟨by omega, x.2⟩)]
      · rw [if_neg q]
        have e1 : (bTk t n).1 n = t.1 n - 1 := pk_us
        have e2 : (bTk t n).2 n = bSh (t.2 n) := updL_s
        by_cases e : w = n
        · subst e
          constructor
          · show upd (bTk t w).1 w ((bTk t w).1 w + 1) w = ln w
            rw [pk_us, e1, i1 w hw, em]
            cases m with
            | zero => exact absurd (by rw [em]; decide) q
            | succ m => rw [nI_s1, ← nI_succ]
          · show vp_updL (bTk t w).2 w (bWr ((bTk t w).2 w) ((bTk t w).1 w) (V (3 + sr w).toNatClampNeg)) w = _
            rw [updL_s, e1, e2, i1 w hw, i2 w hw, if_neg (fun x => absurd x.1 (Nat.lt_irrefl _)), if_pos ⟨Nat.lt_succ_self w, q⟩]
        · constructor
          · show upd (bTk t n).1 n ((bTk t n).1 n + 1) w = ln w
            rw [pk_un e]
            show upd t.1 n (t.1 n - 1) w = ln w
            rw [pk_un e]
            exact i1 w hw
          · show vp_updL (bTk t n).2 n (bWr ((bTk t n).2 n) ((bTk t n).1 n) (V (3 + sr n).toNatClampNeg)) w = _
            rw [updL_n e]
            show vp_updL t.2 n (bSh (t.2 n)) w = _
            rw [updL_n e, i2 w hw]
            by_cases e2 : w < n ∧ ¬ ln w ≤ 0
            · rw [if_pos e2, if_pos ⟨by omega, e2.2⟩]
            · rw [if_neg e2, if_neg (fun x => e2 ⟨by omega, x.2⟩)]
    exact ⟨fun w hw => (hstep w hw).1, fun w hw => (hstep w hw).2⟩
/-- the reference's shift of one wire -/
theorem rSh_is {F : Nat → Int32} {i : Nat} {S : Nat → Int32} : ∀ k j, lp (rSh J F a b d i) k S j = if 40 * i ≤ j ∧ j < 40 * i + k then (if (J 4 i).toNatClampNeg ≤ j - 40 * i + 1 then rIn F (J 3 i) a b d else S (j + 1)) else S j := by
  intro k
  induction k with
  | zero => intro j; rw [if_neg (by omega)]; rfl
  | succ k ih =>
    intro j
    show upd (lp (rSh J F a b d i) k S) (40 * i + k) (if (J 4 i).toNatClampNeg ≤ k + 1 then rIn F (J 3 i) a b d else lp (rSh J F a b d i) k S (40 * i + k + 1)) j = _
    rw [ih (40 * i + k + 1), if_neg (show ¬ (40 * i ≤ 40 * i + k + 1 ∧ 40 * i + k + 1 < 40 * i + k) by omega)]
    by_cases e : j = 40 * i + k
    · subst e
      rw [pk_us, if_pos (show 40 * i ≤ 40 * i + k ∧ 40 * i + k < 40 * i + (k + 1) by omega), show 40 * i + k - 40 * i + 1 = k + 1 from by omega]
    · rw [pk_un e, ih j]
      by_cases e2 : 40 * i ≤ j ∧ j < 40 * i + k
      · rw [if_pos e2, if_pos (show 40 * i ≤ j ∧ j < 40 * i + (k + 1) by omega)]
      · rw [if_neg e2, if_neg (show ¬ (40 * i ≤ j ∧ j < 40 * i + (k + 1)) by omega)]
theorem rTS_is {F : Nat → Int32} {S : Nat → Int32} (hl : ∀ w, w < 27 → ∃ m, m ≤ 20 ∧ J 4 w = nI m) : ∀ n, n ≤ 27 → ∀ w k, w < 27 → k < 40 → lp (rTS J F a b d) n S (40 * w + k) = if w < n ∧ k < (J 4 w).toNatClampNeg then (if (J 4 w).toNatClampNeg ≤ k + 1 then rIn F (J 3 w) a b d else S (40 * w + k + 1)) else S (40 * w + k) := by
  intro n
  induction n with
  | zero => intro _ w k _ _; rw [if_neg (by omega)]; rfl
  | succ n ih =>
    intro hn w k hw hk
    show lp (rSh J F a b d n) (J 4 n).toNatClampNeg (lp (rTS J F a b d) n S) (40 * w + k) = _
    rw [rSh_is]
    obtain ⟨m, hm, em⟩ := hl n (by omega)
    have ec : (J 4 n).toNatClampNeg = m := by rw [em, nI_clamp (by omega)]
    by_cases e : w = n
    · subst e
      rw [ec, show 40 * w + k - 40 * w + 1 = k + 1 from by omega]
      by_cases e2 : k < m
      · rw [if_pos (show 40 * w ≤ 40 * w + k ∧ 40 * w + k < 40 * w + m by omega), if_pos (show w < w + 1 ∧ k < m from ⟨by omega, e2⟩)]
        by_cases e3 : m ≤ k + 1
        · rw [if_pos e3, if_pos e3]
        · rw [if_neg e3, if_neg e3, show 40 * w + k + 1 = 40 * w + (k + 1) from rfl, ih (by omega) w (k + 1) hw (by omega), if_neg (fun q => Nat.lt_irrefl _ q.1)]
      · rw [if_neg (show ¬ (40 * w ≤ 40 * w + k ∧ 40 * w + k < 40 * w + m) by omega), if_neg (fun q => e2 q.2), ih (by omega) w k hw hk, if_neg (fun q => Nat.lt_irrefl _ q.1)]
    · rw [ec, if_neg (show ¬ (40 * n ≤ 40 * w + k ∧ 40 * w + k < 40 * n + m) by omega), ih (by omega) w k hw hk]
      by_cases e2 : w < n ∧ k < (J 4 w).toNatClampNeg
      · rw [if_pos e2, if_pos (show w < n + 1 ∧ k < (J 4 w).toNatClampNeg from ⟨by omega, e2.2⟩)]
      · rw [if_neg e2, if_neg (show ¬ (w < n + 1 ∧ k < (J 4 w).toNatClampNeg) from fun q => e2 ⟨by omega, q.2⟩)]
theorem aVal_d3 (x : Int32) : (aVal x = 0 ↔ ¬ (¬ x < 0 ∧ ¬ 2 < x)) ∧ (¬ x < 0 ∧ ¬ 2 < x → d3 x) := by
  unfold aVal
  refine ⟨?_, fun h => i32_rng (b := 2) h.1 (i32_nlt h.2) (by decide)⟩
  by_cases h1 : x < 0
  · rw [if_pos h1]; exact ⟨fun _ q => q.1 h1, fun _ => rfl⟩
  · rw [if_neg h1]
    by_cases h2 : 2 < x
    · rw [if_pos h2]; exact ⟨fun _ q => q.2 h2, fun _ => rfl⟩
    · rw [if_neg h2]; exact ⟨fun q => absurd q (by decide), fun q => absurd ⟨h1, h2⟩ q⟩
/-- the gates' answers, in class and reference -/
theorem tick_vals (R : Rel c I L J) (hs : sndB c I = true) (ha : d3 a) (hb : d3 b) (hd : d3 d) : tI2 c I L a b d 25 2 = a ∧ tI2 c I L a b d 25 1 = b ∧ tI2 c I L a b d 25 0 = d ∧ ∀ g, 1 ≤ g → g ≤ c → tI2 c I L a b d 25 (3 + g) = rTF c J a b d g ∧ d3 (rTF c J a b d g) := by
  obtain ⟨pl, q1, q2, q3, q4⟩ := order_is R hs
  have p1 : ∀ a, a < c → 1 ≤ pl a ∧ pl a ≤ c := fun a h => ⟨(q1 a h).1, (q1 a h).2.1⟩
  have hc := R.hc
  have eV : tI2 c I L a b d 25 = sV I L pl (cIn (I 25) a b d) c := by
    show cSet (I 10) (I 12) (I 65) (L 66) (fun a => (oI c I 17 a).toNatClampNeg) c (cIn (I 25) a b d) = _
    unfold cSet sV
    refine lp_eq c (fun i t hi => ?_)
    show sStep (I 10) (I 12) (I 65) (L 66) (oI c I 17 i).toNatClampNeg t = _
    have := (q1 i hi).2.1
    rw [(q1 i hi).2.2, nI_clamp (by omega)]
  have v2 : cIn (I 25) a b d 2 = a := rfl
  have v1 : cIn (I 25) a b d 1 = b := rfl
  have v0 : cIn (I 25) a b d 0 = d := rfl
  have hfix := class_fix R hs ha hb hd v2 v1 v0 p1 q3 q4 c
  rw [eV]
  refine ⟨(sV_in (by decide) c).trans v2, (sV_in (by decide) c).trans v1, (sV_in (by decide) c).trans v0, ?_⟩
  intro g g1 g2
  obtain ⟨i, hi, rfl⟩ := q2 g g1 g2
  have h := ref_fix (X := fun g => sV I L pl (cIn (I 25) a b d) c (3 + g)) R hs p1 q2 q3 q4 (fun i hi => (hfix i hi (Nat.le_refl _)).2) (lp (rF1 2) c (J 13)) c (Nat.le_refl _) i hi
  have h : rTF c J a b d (pl i) = sV I L pl (cIn (I 25) a b d) c (3 + pl i) := h
  rw [h]
  exact ⟨rfl, (hfix i hi (Nat.le_refl _)).1⟩
theorem tick_agr (R : Rel c I L J) (a b d : Int32) : gOn c (aTick c fil I L a b d).2 (rTick c J a b d).2.2 ∧ AgI [(3, 1), (0, 2)] (aTick c fil I L a b d).1 (rTick c J a b d).2.1 (rTick c J a b d).1 := by
  have hc := R.hc
  have hs := snd_eq R
  unfold aTick rTick
  rw [← hs]
  cases hss : sndB c I with
  | false =>
    rw [if_neg Bool.false_ne_true, if_neg Bool.false_ne_true]
    exact ⟨sndH_on R, by show ((3 : Nat), (1 : Int32)) ∈ _; decide⟩
  | true =>
    rw [if_pos rfl, if_pos rfl]
    have bad : rFits a b d = false → gOn c (((Sum.inr 0 : mx_O), pic (nI c) (nI c) (oI c I) L) : aR).2 (if rFits a b d = true then (rAns (rSnI c J) (rTF c (rSnI c J) a b d) a b d, 0, rTJ c (rSnI c J) a b d) else ((0 : Int32), (2 : Int32), rSnI c J)).2.2 ∧ AgI [(3, 1), (0, 2)] (((Sum.inr 0 : mx_O), pic (nI c) (nI c) (oI c I) L) : aR).1 (if rFits a b d = true then (rAns (rSnI c J) (rTF c (rSnI c J) a b d) a b d, 0, rTJ c (rSnI c J) a b d) else ((0 : Int32), (2 : Int32), rSnI c J)).2.1 (if rFits a b d = true then (rAns (rSnI c J) (rTF c (rSnI c J) a b d) a b d, 0, rTJ c (rSnI c J) a b d) else ((0 : Int32), (2 : Int32), rSnI c J)).1 := fun h => by
      rw [h, if_neg Bool.false_ne_true]
      exact ⟨⟨_, _, L, rfl, Rel_snd R⟩, by show ((0 : Nat), (2 : Int32)) ∈ _; decide⟩
    by_cases ka : aVal a = 0
    · rw [if_pos ka]
      exact bad (decide_eq_false (fun q => (aVal_d3 a).1.mp ka ⟨q.1, q.2.1⟩))
    rw [if_neg ka]
    by_cases kb : aVal b = 0
    · rw [if_pos kb]
      exact bad (decide_eq_false (fun q => (aVal_d3 b).1.mp kb ⟨q.2.2.1, q.2.2.2.1⟩))
    rw [if_neg kb]
    by_cases kd : aVal d = 0
    · rw [if_neg (not_not_intro kd)]
      exact bad (decide_eq_false (fun q => (aVal_d3 d).1.mp kd ⟨q.2.2.2.2.1, q.2.2.2.2.2⟩))
    rw [if_pos kd]
    have fa : ¬ a < 0 ∧ ¬ 2 < a := Decidable.of_not_not (fun q => ka ((aVal_d3 a).1.mpr q))
    have fb : ¬ b < 0 ∧ ¬ 2 < b := Decidable.of_not_not (fun q => kb ((aVal_d3 b).1.mpr q))
    have fd : ¬ d < 0 ∧ ¬ 2 < d := Decidable.of_not_not (fun q => kd ((aVal_d3 d).1.mpr q))
    have ha := (aVal_d3 a).2 fa
    have hb := (aVal_d3 b).2 fb
    have hd := (aVal_d3 d).2 fd
    rw [show rFits a b d = true from decide_eq_true ⟨fa.1, fa.2, fb.1, fb.2, fd.1, fd.2⟩, if_pos rfl]
    have R1 : Rel c I L (rSnI c J) := Rel_sndJ R
    generalize rSnI c J = J1 at R1 ⊢
    obtain ⟨v2, v1, v0, hv⟩ := tick_vals R1 hss ha hb hd
    generalize hV : tI2 c I L a b d 25 = V at v2 v1 v0 hv ⊢
    generalize hF : rTF c J1 a b d = F at hv ⊢
    have hin : ∀ w, w < 27 → ¬ J1 3 w = 0 → V (3 + I 12 w).toNatClampNeg = rIn F (J1 3 w) a b d ∧ d3 (rIn F (J1 3 w) a b d) := fun w hw hn => in_eq R1 v2 v1 v0 hw hn (fun g g1 g2 => (hv g g1 g2).1) ha hb hd (fun g g1 g2 => (hv g g1 g2).2)
    have ho : ∀ w, w < 27 → (if ¬ I 12 w = 0 then cV (I 12) (I 65) (L 66) V w else 3) = rTv J1 F a b d w := fun w hw => by
      unfold rTv
      rw [R1.fr w hw]
      by_cases q : J1 3 w = 0
      · rw [if_neg (not_not_intro q), if_neg (not_not_intro q)]
      · rw [if_pos q, if_pos q]
        exact cV_eq R1 v2 v1 v0 hw q (fun _ g g1 g2 _ => (hv g g1 g2).1)
    refine ⟨⟨nI c, _, _, rfl, ?_⟩, rfl, ?_⟩
    · have hl : ∀ w, w < 27 → ∃ m, m ≤ 20 ∧ I 65 w = nI m := fun w hw => by rw [R1.rn w hw]; exact R1.mnb w hw
      obtain ⟨s1, s2⟩ := cSh_is (sr := I 12) (V := V) (vl := L 66) hl 27 (Nat.le_refl _)
      have R2 : Rel c (tI2 c I L a b d) L J1 := Rel_ext R1 (fun j h => by
        unfold tI2 tI1
        rw [upI_ne _ _ (by omega), upI_ne _ _ (by omega)]
        exact oI_ne (by omega) (by omega)) (fun j h => rfl)
      refine ⟨R2.hc, R2.kd, R2.kdb, R2.ds, R2.dsb, R2.fr, R2.frb, R2.frs, R2.frp, R2.mn, R2.mnb, R2.mn0, ?_, R2.vl, ?_, R2.told⟩
      · intro w hw
        show (cSh (I 12) V (I 65, L 66)).1 w = J1 4 w
        rw [← R1.rn w hw]
        unfold cSh
        exact s1 w hw
      · intro w k hw hk
        show bRd ((cSh (I 12) V (I 65, L 66)).2 w) (nI k) = rTJ c J1 a b d 6 (40 * w + k) ∧ ∃ n, n ≤ 2 ∧ rTJ c J1 a b d 6 (40 * w + k) = nI n
        have hk : k < (J1 4 w).toNatClampNeg := hk
        have e6 : rTJ c J1 a b d 6 = lp (rTS J1 F a b d) 27 (J1 6) := by rw [← hF]; rfl
        obtain ⟨m, hm, em⟩ := R1.mnb w hw
        have ec : (J1 4 w).toNatClampNeg = m := by rw [em, nI_clamp (by omega)]
        have hkm : k < m := by rw [ec] at hk; exact hk
        have hm0 : ¬ I 65 w ≤ 0 := by
          rw [R1.rn w hw, em]
          exact nI_ge (a := 0) (b := m) (by omega) (by omega)
        have hn : ¬ J1 3 w = 0 := fun q => by
          have h4 := R1.mn0 w hw q
          rw [em] at h4
          have := (nI_eq (b := 0) (by omega) (by decide)).mp h4
          omega
        have e2 : (cSh (I 12) V (I 65, L 66)).2 w = bWr (bSh (L 66 w)) (I 65 w - 1) (V (3 + I 12 w).toNatClampNeg) := by
          unfold cSh
          rw [s2 w hw, if_pos ⟨hw, hm0⟩]
        rw [e2, e6, rTS_is R1.mnb 27 (Nat.le_refl _) w k hw (by omega), if_pos ⟨hw, hk⟩, ec]
        obtain ⟨i1, n, hn2, i2⟩ := hin w hw hn
        rw [i1, i2, R1.rn w hw, em, show m = m - 1 + 1 from by omega, nI_s1]
        by_cases e : k = m - 1
        · subst e
          rw [if_pos (by omega), rd_wr _ (by omega) (by omega)]
          exact ⟨rfl, n, hn2, rfl⟩
        · rw [if_neg (by omega), rd_wr_ne _ (by omega) (by omega) (by omega) e, rd_sh _ (by omega)]
          exact R1.rv w (k + 1) hw (by rw [ec]; omega)
    · show some (Value.int (4 * (4 * (4 * 0 + (if ¬ I 12 26 = 0 then cV (I 12) (I 65) (L 66) V 26 else 3)) + (if ¬ I 12 25 = 0 then cV (I 12) (I 65) (L 66) V 25 else 3)) + (if ¬ I 12 24 = 0 then cV (I 12) (I 65) (L 66) V 24 else 3))) = some (Value.int (rAns J1 F a b d))
      rw [ho 26 (by decide), ho 25 (by decide), ho 24 (by decide)]
      rfl
end TCS
