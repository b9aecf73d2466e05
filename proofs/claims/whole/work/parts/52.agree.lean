/-! Class and reference agree: gate, wire, hold, held, registers, label, restart, sound, shared. -/
/-- the class's outcome o against the reference's thrown and answer; ks: which exception goes with which number -/
def AgI (ks : List (Nat × Int32)) (o : mx_O) (thr ans : Int32) : Prop := match o with
  | .inl v => thr = 0 ∧ v = some (.int ans)
  | .inr k => (k, thr) ∈ ks
def AgV (ks : List (Nat × Int32)) (o : mx_O) (thr : Int32) : Prop := match o with
  | .inl v => thr = 0 ∧ v = none
  | .inr k => (k, thr) ∈ ks
/-- the class's picture h goes on with the reference's cells -/
def gOn (c : Nat) (h : List va_E) (J : Nat → Nat → Int32) : Prop := ∃ fil I L, h = pic (nI c) fil I L ∧ Rel c I L J
theorem i32_rng {x : Int32} {b : Nat} (h0 : ¬ x < 0) (h1 : x ≤ nI b) (hb : b < 999) : ∃ n, n ≤ b ∧ x = nI n := by
  obtain ⟨n, hn, e⟩ := i32_nat (r := x) (m := nI (b + 1)) (n := b + 1) h0 (by
    rw [Int32.le_iff_toInt_le] at h1 ⊢
    rw [nI_toInt (by omega)] at h1 ⊢
    omega) (nI_le (Nat.le_refl (b + 1)) (by omega)) (by omega)
  exact ⟨n, by omega, e⟩
theorem i32_nlt {x y : Int32} (h : ¬ y < x) : x ≤ y := by
  rw [Int32.lt_iff_toInt_lt] at h
  rw [Int32.le_iff_toInt_le]
  omega
theorem upd_eq {f f2 : Nat → Int32} {n k : Nat} {x : Int32} (h : ∀ g, g < n → f g = f2 g) : ∀ g, g < n → upd f k x g = upd f2 k x g := fun g hg => by
  unfold upd
  split
  · rfl
  · exact h g hg
theorem upd_all {f : Nat → Int32} {n k : Nat} {x : Int32} {P : Int32 → Prop} (h : ∀ g, g < n → P (f g)) (hx : P x) : ∀ g, g < n → P (upd f k x g) := fun g hg => by
  unfold upd
  split
  · exact hx
  · exact h g hg
section AGR
variable {c : Nat} {fil : Int32} {I : Nat → Nat → Int32} {L : Nat → Nat → Int64} {J : Nat → Nat → Int32}
theorem gOn_same (R : Rel c I L J) : gOn c (pic (nI c) fil I L) J := ⟨fil, I, L, rfl, R⟩
theorem gbf_lt {w : Nat} (h : w < 24) : gbf w = w / 2 + 1 := by unfold gbf; rw [if_neg (by omega)]
theorem gate_new (R : Rel c I L J) {x y : Int32} (hc : c < 12) (hx : ∃ n, n ≤ 4 ∧ x = nI n) (hy : ∃ n, n ≤ 50 ∧ y = nI n) : Rel (c + 1) (begI (upI (upI I 10 (upd (I 10) (c + 1) x)) 11 (upd (I 11) (c + 1) y))) (begL L) (rbeg (upI (upI J 1 (upd (J 1) (c + 1) x)) 2 (upd (J 2) (c + 1) y))) := by
  refine ⟨by omega, upd_eq R.kd, upd_all (P := fun z => ∃ n, n ≤ 4 ∧ z = nI n) (f := J 1) R.kdb hx, upd_eq R.ds, upd_all (P := fun z => ∃ n, n ≤ 50 ∧ z = nI n) (f := J 2) R.dsb hy, R.fr, ?_, ?_, ?_, R.mn, R.mnb, R.mn0, R.mn, R.vl, R.vl, R.told⟩
  · intro w hw
    rcases R.frb w hw with h | ⟨g, hg, e⟩
    · exact Or.inl h
    · exact Or.inr ⟨g, by omega, e⟩
  · intro w hw h
    exact R.frs w hw (by omega)
  · intro g g1 g2 h
    by_cases e : g = c + 1
    · exact R.frs (2 * g - 1) (by omega) (by rw [gbf_lt (by omega)]; omega)
    · refine R.frp g g1 (by omega) ?_
      have h : pn (upd (J 1) (c + 1) x) g = 1 := h
      exact (pn_eq (kd := J 1) (kd2 := upd (J 1) (c + 1) x) (pk_un e).symm).trans h
theorem gate_agr (R : Rel c I L J) (x y : Int32) : gOn (rGate c J x y).2.2.1 (aGate c fil I L x y).2 (rGate c J x y).2.2.2 ∧ AgI [(0, 1), (1, 2)] (aGate c fil I L x y).1 (rGate c J x y).2.1 (rGate c J x y).1 := by
  have hc := R.hc
  have bad : ∀ k t, (k, t) ∈ [((0 : Nat), (1 : Int32)), (1, 2)] → gOn (0, t, c, J).2.2.1 ((Sum.inr k : mx_O), pic (nI c) fil I L).2 (0, t, c, J).2.2.2 ∧ AgI [(0, 1), (1, 2)] ((Sum.inr k : mx_O), pic (nI c) fil I L).1 (0, t, c, J).2.1 ((0 : Int32), t, c, J).1 := fun k t h => ⟨gOn_same R, h⟩
  unfold rGate aGate
  by_cases h1 : x < 0
  · rw [if_pos h1, if_pos h1]; exact bad 0 1 (by decide)
  rw [if_neg h1, if_neg h1]
  by_cases h2 : 4 < x
  · rw [if_pos h2, if_pos h2]; exact bad 0 1 (by decide)
  rw [if_neg h2, if_neg h2]
  by_cases h3 : y < 0
  · rw [if_pos h3, if_pos h3]; exact bad 0 1 (by decide)
  rw [if_neg h3, if_neg h3]
  by_cases h4 : y ≤ 50
  · rw [if_neg (not_not_intro h4), if_neg (not_not_intro h4)]
    by_cases h5 : c = 12
    · rw [if_pos (show ¬ nI c < 12 from by rw [h5]; decide), if_neg (not_not_intro (show nI c = 12 from by rw [h5]; rfl))]
      exact bad 1 2 (by decide)
    · have h6 : nI c < 12 := nI_lt (b := 12) (by omega) (by decide)
      rw [if_neg (not_not_intro h6), if_pos (show ¬ nI c = 12 from fun q => h5 ((nI_eq (b := 12) (by omega) (by decide)).mp q))]
      exact ⟨⟨fil, _, _, rfl, gate_new R (by omega) (i32_rng (b := 4) h1 (i32_nlt h2) (by decide)) (i32_rng (b := 50) h3 h4 (by decide))⟩, rfl, rfl⟩
  · rw [if_pos h4, if_pos h4]; exact bad 0 1 (by decide)
theorem end_eq (cnt x : Int32) : (qP_hasEnd cnt x = 0 ↔ rEnd cnt x = false) := by
  have hpt : qM_outer x = qP_isPort x := by
    unfold qM_outer qP_isPort
    (repeat' split) <;> first | rfl | contradiction
  unfold qP_hasEnd rEnd
  rw [hpt]
  by_cases h : qP_hasGate cnt x = 0
  · rw [if_neg (not_not_intro h), if_neg (not_not_intro h)]
    by_cases h2 : qP_isPort x = 0
    · rw [if_pos h2, if_pos h2]; decide
    · rw [if_neg h2, if_neg h2]; decide
  · rw [if_pos h, if_pos h]; decide
theorem port_is {x : Int32} (h : ¬ qM_outer x = 0) : x = -1 ∨ x = -2 ∨ x = -3 := by
  unfold qM_outer at h
  by_cases h1 : -1 < x
  · rw [if_pos h1] at h; exact absurd rfl h
  · rw [if_neg h1] at h
    by_cases h2 : x < -3
    · rw [if_pos h2] at h; exact absurd rfl h
    · rw [Int32.lt_iff_toInt_lt] at h1 h2
      have h1 : ¬ (-1 : Int) < x.toInt := h1
      have h2 : ¬ x.toInt < -3 := h2
      rcases (show x.toInt = -1 ∨ x.toInt = -2 ∨ x.toInt = -3 by omega) with e | e | e
      · exact Or.inl (Int32.toInt_inj.mp e)
      · exact Or.inr (Or.inl (Int32.toInt_inj.mp e))
      · exact Or.inr (Or.inr (Int32.toInt_inj.mp e))
theorem end_is (hc : c ≤ 12) {x : Int32} (h : rEnd (nI c) x = true) : ((x = -1 ∨ x = -2 ∨ x = -3) ∨ ∃ g, g ≤ c ∧ x = nI g) ∧ ¬ x = 0 := by
  unfold rEnd at h
  by_cases h1 : qP_hasGate (nI c) x = 0
  · rw [if_neg (not_not_intro h1)] at h
    by_cases h2 : qM_outer x = 0
    · rw [if_pos h2] at h; exact absurd h (by decide)
    · have := port_is h2
      exact ⟨Or.inl this, (i32_neg_le this).2.2⟩
  · obtain ⟨u, u1, u2, rfl⟩ := hasG hc h1
    refine ⟨Or.inr ⟨u, u2, rfl⟩, fun q => ?_⟩
    have := (nI_eq (b := 0) (by omega) (by decide)).mp q
    omega
/-- where a pin's wire lies -/
theorem place_is (hc : c ≤ 12) {kd : Nat → Int32} {x y : Int32} (h : ¬ qM_place (nI c) kd x y < 0) : ∃ w, w < 27 ∧ qM_place (nI c) kd x y = nI w ∧ (24 ≤ w ∨ ∃ u k, 1 ≤ u ∧ u ≤ c ∧ k < pn kd u ∧ w = 2 * u - 2 + k) := by
  unfold qM_place at h ⊢
  by_cases h1 : qM_outer x = 0
  · rw [if_pos h1] at h ⊢
    by_cases h2 : qP_hasGate (nI c) x = 0
    · rw [if_pos h2] at h; exact absurd (by decide) h
    · rw [if_neg h2] at h ⊢
      by_cases h3 : y < 0
      · rw [if_pos h3] at h; exact absurd (by decide) h
      · rw [if_neg h3] at h ⊢
        by_cases h4 : qP_pinsOf kd x ≤ y
        · rw [if_pos h4] at h; exact absurd (by decide) h
        · rw [if_neg h4]
          obtain ⟨u, u1, u2, rfl⟩ := hasG hc h2
          rw [pn_nat (by omega)] at h4
          have hp := pn_le kd u
          obtain ⟨k, hk, rfl⟩ := i32_nat (n := pn kd u) h3 h4 (nI_le (Nat.le_refl _) (by omega)) (by omega)
          refine ⟨2 * u - 2 + k, by omega, ?_, Or.inr ⟨u, k, u1, u2, hk, rfl⟩⟩
          rw [show (2 : Int32) = nI 2 from rfl, pk_mul, pk_sub (by omega), nI_add]
  · rw [if_neg h1] at h ⊢
    by_cases h2 : y = 0
    · rw [if_neg (not_not_intro h2)]
      rcases port_is h1 with rfl | rfl | rfl
      · exact ⟨24, by decide, rfl, Or.inl (by decide)⟩
      · exact ⟨25, by decide, rfl, Or.inl (by decide)⟩
      · exact ⟨26, by decide, rfl, Or.inl (by decide)⟩
    · rw [if_pos h2] at h; exact absurd (by decide) h
theorem vFill_at (w : Nat) (f : Nat → Int32) : ∀ n k, k < n → lp (fun k f => upd f (40 * w + k) (2 : Int32)) n f (40 * w + k) = 2 := by
  intro n
  induction n with
  | zero => intro k hk; omega
  | succ n ih =>
    intro k hk
    show upd (lp (fun k f => upd f (40 * w + k) (2 : Int32)) n f) (40 * w + n) 2 (40 * w + k) = 2
    by_cases e : k = n
    · subst e; exact pk_us
    · rw [pk_un (by omega)]; exact ih k (by omega)
theorem vFill_ne (w : Nat) (f : Nat → Int32) {j : Nat} : ∀ n, (∀ k, k < n → j ≠ 40 * w + k) → lp (fun k f => upd f (40 * w + k) (2 : Int32)) n f j = f j := by
  intro n
  induction n with
  | zero => intro _; rfl
  | succ n ih =>
    intro h
    show upd (lp (fun k f => upd f (40 * w + k) (2 : Int32)) n f) (40 * w + n) 2 j = f j
    rw [pk_un (h n (Nat.lt_succ_self n))]
    exact ih (fun k hk => h k (by omega))
theorem bFill_rd (v : Int64) : ∀ n k, k < n → n ≤ 32 → bRd (bFill v n) (nI k) = 2 := by
  intro n
  induction n with
  | zero => intro k hk; omega
  | succ n ih =>
    intro k hk hn
    show bRd (bWr (bFill v n) (nI n) (nI 2)) (nI k) = 2
    by_cases e : k = n
    · subst e; exact rd_wr _ (by omega) (by decide)
    · rw [rd_wr_ne _ (by omega) (by omega) (by decide) e]
      exact ih k (by omega) (by omega)
theorem updL_s {f : Nat → Int64} {k : Nat} {x : Int64} : vp_updL f k x k = x := if_pos rfl
theorem updL_n {f : Nat → Int64} {k j : Nat} {x : Int64} (h : j ≠ k) : vp_updL f k x j = f j := if_neg h
theorem wire_new (R : Rel c I L J) {w : Nat} {x : Int32} {r : Nat} (hw : w < 27) (hx : ((x = -1 ∨ x = -2 ∨ x = -3) ∨ ∃ g, g ≤ c ∧ x = nI g) ∧ ¬ x = 0) (hr : r ≤ 4) (hpl : 24 ≤ w ∨ ∃ u k, 1 ≤ u ∧ u ≤ c ∧ k < pn (J 1) u ∧ w = 2 * u - 2 + k) : Rel c (begI (upI (upI I 12 (upd (I 12) w x)) 13 (upd (I 13) w (nI r)))) (begL (upL L 14 (vp_updL (L 14) w (bFill (L 14 w) r)))) (rWnew J w x (nI r)) := by
  have hc := R.hc
  have hvl : ∀ w' k, w' < 27 → k < (upd (J 4) w (nI r) w').toNatClampNeg → bRd (vp_updL (L 14) w (bFill (L 14 w) r) w') (nI k) = vFill w (J 5) (40 * w' + k) ∧ ∃ n, n ≤ 2 ∧ vFill w (J 5) (40 * w' + k) = nI n := by
    intro w' k hw' hk
    by_cases e : w' = w
    · subst e
      rw [pk_us, nI_clamp (by omega)] at hk
      rw [updL_s, bFill_rd _ r k hk (by omega)]
      have e2 : vFill w' (J 5) (40 * w' + k) = 2 := vFill_at w' (J 5) 40 k (by omega)
      rw [e2]
      exact ⟨rfl, 2, by decide, rfl⟩
    · rw [pk_un e] at hk
      rw [updL_n e]
      obtain ⟨m, hm, em⟩ := R.mnb w' hw'
      have hk2 : k < m := by rw [em, nI_clamp (by omega)] at hk; exact hk
      have e2 : vFill w (J 5) (40 * w' + k) = J 5 (40 * w' + k) := vFill_ne w (J 5) 40 (fun i hi q => e (by omega))
      rw [e2]
      exact R.vl w' k hw' hk
  have hmn := upd_eq (k := w) (x := nI r) R.mn
  refine ⟨hc, R.kd, R.kdb, R.ds, R.dsb, upd_eq R.fr, upd_all (P := fun z => (z = -1 ∨ z = -2 ∨ z = -3) ∨ ∃ g, g ≤ c ∧ z = nI g) R.frb hx.1, ?_, ?_, hmn, upd_all (P := fun z => ∃ m, m ≤ 20 ∧ z = nI m) R.mnb ⟨r, by omega, rfl⟩, ?_, hmn, hvl, hvl, R.told⟩
  · intro w' hw' h
    show upd (J 3) w x w' = 0
    rw [pk_un, R.frs w' hw' h]
    rintro rfl
    rcases hpl with h2 | ⟨u, k, u1, u2, hk, rfl⟩
    · omega
    · have := pn_le (J 1) u
      rw [gbf_lt hw'] at h
      omega
  · intro g g1 g2 h
    show upd (J 3) w x (2 * g - 1) = 0
    have h : pn (J 1) g = 1 := h
    rw [pk_un, R.frp g g1 g2 h]
    rintro rfl
    rcases hpl with h2 | ⟨u, k, u1, u2, hk, e⟩
    · omega
    · have := pn_le (J 1) u
      have e2 : u = g := by omega
      subst e2
      omega
  · intro w' hw' h
    show upd (J 4) w (nI r) w' = 0
    have h : upd (J 3) w x w' = 0 := h
    by_cases e : w' = w
    · subst e
      rw [pk_us] at h
      exact absurd h hx.2
    · rw [pk_un e] at h ⊢
      exact R.mn0 w' hw' h
theorem place_kd {cnt : Int32} {kd kd2 : Nat → Int32} {x y : Int32} (h : ∀ g, g < 13 → kd g = kd2 g) (hx : qP_hasGate cnt x ≠ 0 → vp_in x 13) : qP_placeOf cnt kd x y = qP_placeOf cnt kd2 x y := by
  unfold qP_placeOf
  by_cases h1 : qP_hasGate cnt x = 0
  · rw [if_pos h1, if_pos h1]
  · have h2 : qP_pinsOf kd x = qP_pinsOf kd2 x := by
      obtain ⟨g, hg, e⟩ := vp_in_of (hx h1) (by decide)
      unfold qP_pinsOf
      rw [e, nI_clamp (by omega), h g hg]
    rw [if_neg h1, if_neg h1, h2]
theorem place_both (R : Rel c I L J) (x y : Int32) : qP_placeOf (nI c) (I 10) x y = qM_place (nI c) (J 1) x y := by
  have hc := R.hc
  rw [qM_place_eq hc]
  exact place_kd R.kd (fun h => by obtain ⟨u, _, _, rfl⟩ := hasG hc h; exact vp_in_nI (by omega) (by decide))
theorem wire_agr (R : Rel c I L J) (x s y r : Int32) : gOn c (aWire c fil I L x s y r).2 (rWire c J x s y r).2 ∧ AgV [(2, 1), (0, 2)] (aWire c fil I L x s y r).1 (rWire c J x s y r).1 := by
  have hc := R.hc
  have bad : ∀ k t, (k, t) ∈ [((2 : Nat), (1 : Int32)), (0, 2)] → gOn c ((Sum.inr k : mx_O), pic (nI c) fil I L).2 (t, J).2 ∧ AgV [(2, 1), (0, 2)] ((Sum.inr k : mx_O), pic (nI c) fil I L).1 ((t : Int32), J).1 := fun k t h => ⟨gOn_same R, h⟩
  unfold rWire aWire
  rw [place_both R]
  cases hx : rEnd (nI c) x with
  | false =>
    rw [if_pos ((end_eq _ _).mpr hx), Bool.false_and, if_neg Bool.false_ne_true]
    exact bad 2 1 (by decide)
  | true =>
    rw [if_neg (fun q => by rw [(end_eq _ _).mp q] at hx; cases hx)]
    cases hs : rEnd (nI c) s with
    | false =>
      rw [if_pos ((end_eq _ _).mpr hs), Bool.and_false, if_neg Bool.false_ne_true]
      exact bad 2 1 (by decide)
    | true =>
      rw [if_neg (fun q => by rw [(end_eq _ _).mp q] at hs; cases hs), Bool.and_true, if_pos (rfl : true = true)]
      obtain ⟨n1, n2⟩ := place_neg (kd := J 1) (x := s) (y := y) hc
      by_cases h1 : qM_place (nI c) (J 1) s y < 0
      · rw [if_pos (n1.mp h1), if_pos h1]; exact bad 0 2 (by decide)
      · rw [if_neg (fun q => h1 (n1.mpr q)), if_neg h1]
        by_cases h2 : r < 0
        · rw [if_pos h2, if_pos h2]; exact bad 0 2 (by decide)
        · rw [if_neg h2, if_neg h2]
          by_cases h3 : r ≤ 4
          · rw [if_neg (not_not_intro h3), if_neg (not_not_intro h3)]
            obtain ⟨w, hw, ew, hpl⟩ := place_is hc h1
            obtain ⟨n, hn, rfl⟩ := i32_rng (b := 4) h2 h3 (by decide)
            rw [ew, nI_clamp (by omega), nI_clamp (by omega)]
            exact ⟨⟨fil, _, _, rfl, wire_new R hw (end_is hc hx) hn hpl⟩, rfl, rfl⟩
          · rw [if_pos h3, if_pos h3]; exact bad 0 2 (by decide)
theorem isW_both (R : Rel c I L J) (x y : Int32) : (aWt c I x y = none ∧ qM_isW (J 3) (qM_place (nI c) (J 1) x y) = 0) ∨ ∃ w, w < 27 ∧ qM_place (nI c) (J 1) x y = nI w ∧ aWt c I x y = some w ∧ qM_isW (J 3) (qM_place (nI c) (J 1) x y) = 1 := by
  have hc := R.hc
  unfold aWt qM_isW
  rw [place_both R]
  obtain ⟨n1, n2⟩ := place_neg (kd := J 1) (x := x) (y := y) hc
  by_cases h1 : qM_place (nI c) (J 1) x y < 0
  · rw [if_pos (n1.mp h1), if_pos h1]; exact Or.inl ⟨rfl, rfl⟩
  · rw [if_neg (fun q => h1 (n1.mpr q)), if_neg h1]
    obtain ⟨w, hw, ew⟩ := n2 h1
    rw [ew, nI_clamp (by omega), R.fr w hw]
    by_cases h2 : J 3 w = 0
    · rw [if_pos h2, if_pos h2]; exact Or.inl ⟨rfl, rfl⟩
    · rw [if_neg h2, if_neg h2]; exact Or.inr ⟨w, hw, rfl, rfl, rfl⟩
theorem isR_both (R : Rel c I L J) (x y r : Int32) : (aRw c I x y r = none ∧ qM_isR (J 3) (J 4) (qM_place (nI c) (J 1) x y) r = 0) ∨ ∃ w k, w < 27 ∧ k < (J 4 w).toNatClampNeg ∧ k < 20 ∧ r = nI k ∧ qM_place (nI c) (J 1) x y = nI w ∧ aRw c I x y r = some w ∧ qM_isR (J 3) (J 4) (qM_place (nI c) (J 1) x y) r = 1 := by
  unfold qM_isR
  rcases isW_both R x y with ⟨h1, h2⟩ | ⟨w, hw, ew, h1, h2⟩
  · rw [if_pos h2]
    exact Or.inl ⟨by unfold aRw; rw [h1], rfl⟩
  · have e : aRw c I x y r = if r < 0 then none else if ¬ r < I 13 w then none else some w := by unfold aRw; rw [h1]
    rw [if_neg (by rw [h2]; decide), ew, nI_clamp (by omega), e]
    by_cases h3 : r < 0
    · rw [if_pos h3, if_pos h3]
      exact Or.inl ⟨rfl, rfl⟩
    · rw [if_neg h3, if_neg h3, R.mn w hw]
      by_cases h4 : J 4 w ≤ r
      · rw [if_pos h4, if_pos (show ¬ r < J 4 w from fun q => by rw [Int32.lt_iff_toInt_lt] at q; rw [Int32.le_iff_toInt_le] at h4; omega)]
        exact Or.inl ⟨rfl, rfl⟩
      · have h5 : r < J 4 w := by rw [Int32.lt_iff_toInt_lt]; rw [Int32.le_iff_toInt_le] at h4; omega
        rw [if_neg h4, if_neg (not_not_intro h5)]
        obtain ⟨m, hm, em⟩ := R.mnb w hw
        rw [em] at h4
        obtain ⟨k, hk, ek⟩ := i32_nat (n := m) h3 h4 (nI_le (Nat.le_refl _) (by omega)) (by omega)
        refine Or.inr ⟨w, k, hw, by rw [em, nI_clamp (by omega)]; exact hk, by omega, ek, rfl, rfl, rfl⟩
theorem held_agr (R : Rel c I L J) (x y r : Int32) : gOn c (aHeld c fil I L x y r).2 J ∧ AgI [(2, 1)] (aHeld c fil I L x y r).1 (rHeld c J x y r).2 (rHeld c J x y r).1 := by
  unfold aHeld rHeld
  rcases isR_both R x y r with ⟨h1, h2⟩ | ⟨w, k, hw, hk, hk2, rfl, ew, h1, h2⟩
  · rw [h1, if_pos h2]
    exact ⟨gOn_same R, by show ((2 : Nat), (1 : Int32)) ∈ _; decide⟩
  · rw [h1, if_neg (by rw [h2]; decide), ew, nI_clamp (by omega), nI_clamp (by omega)]
    refine ⟨gOn_same R, rfl, ?_⟩
    rw [(R.vl w k hw hk).1]
theorem regs_agr (R : Rel c I L J) (x y : Int32) : gOn c (aRegs c fil I L x y).2 J ∧ AgI [(2, 1)] (aRegs c fil I L x y).1 (rRegs c J x y).2 (rRegs c J x y).1 := by
  unfold aRegs rRegs
  rcases isW_both R x y with ⟨h1, h2⟩ | ⟨w, hw, ew, h1, h2⟩
  · rw [h1, if_pos h2]
    exact ⟨gOn_same R, by show ((2 : Nat), (1 : Int32)) ∈ _; decide⟩
  · rw [h1, if_neg (by rw [h2]; decide), ew, nI_clamp (by omega)]
    refine ⟨gOn_same R, rfl, ?_⟩
    rw [R.mn w hw]
theorem label_agr (R : Rel c I L J) (x : Int32) : gOn c (aLabel c fil I L x).2 J ∧ AgI [(2, 1)] (aLabel c fil I L x).1 (rLab c J x).2 (rLab c J x).1 := by
  have hc := R.hc
  unfold aLabel rLab
  by_cases h : qP_hasGate (nI c) x = 0
  · rw [if_pos h, if_pos h]
    exact ⟨gOn_same R, by show ((2 : Nat), (1 : Int32)) ∈ _; decide⟩
  · rw [if_neg h, if_neg h]
    obtain ⟨u, u1, u2, rfl⟩ := hasG hc h
    refine ⟨gOn_same R, rfl, ?_⟩
    rw [nI_clamp (by omega), R.told u u1 (by omega)]
theorem Rel_beg (R : Rel c I L J) : Rel c (begI I) (begL L) (rbeg J) := ⟨R.hc, R.kd, R.kdb, R.ds, R.dsb, R.fr, R.frb, R.frs, R.frp, R.mn, R.mnb, R.mn0, R.mn, R.vl, R.vl, R.told⟩
theorem hold_agr (R : Rel c I L J) (x y r v : Int32) : gOn c (aHold c fil I L x y r v).2 (rHold c J x y r v).2 ∧ AgV [(2, 1), (0, 2)] (aHold c fil I L x y r v).1 (rHold c J x y r v).1 := by
  unfold aHold rHold
  rcases isR_both R x y r with ⟨h1, h2⟩ | ⟨w, k, hw, hk, hk2, rfl, ew, h1, h2⟩
  · rw [h1, if_pos h2]
    exact ⟨gOn_same R, by show ((2 : Nat), (1 : Int32)) ∈ _; decide⟩
  · rw [h1, if_neg (by rw [h2]; decide), ew, nI_clamp (by omega), nI_clamp (by omega)]
    simp only []
    unfold aVal
    by_cases h3 : v < 0
    · rw [if_pos h3, if_pos h3, if_neg (not_not_intro rfl)]
      exact ⟨gOn_same R, by show ((0 : Nat), (2 : Int32)) ∈ _; decide⟩
    · rw [if_neg h3, if_neg h3]
      by_cases h4 : 2 < v
      · rw [if_pos h4, if_neg (not_not_intro rfl), if_pos (fun q => by rw [Int32.lt_iff_toInt_lt] at h4; rw [Int32.le_iff_toInt_le] at q; omega)]
        exact ⟨gOn_same R, by show ((0 : Nat), (2 : Int32)) ∈ _; decide⟩
      · rw [if_neg h4, if_pos (by decide), if_neg (not_not_intro (i32_nlt h4))]
        obtain ⟨n, hn, rfl⟩ := i32_rng (b := 2) h3 (i32_nlt h4) (by decide)
        refine ⟨⟨fil, begI I, begL (upL L 14 (vp_updL (L 14) w (bWr (L 14 w) (nI k) (nI n)))), rfl, ?_⟩, rfl, rfl⟩
        refine Rel_beg ⟨R.hc, R.kd, R.kdb, R.ds, R.dsb, R.fr, R.frb, R.frs, R.frp, R.mn, R.mnb, R.mn0, R.rn, ?_, R.rv, R.told⟩
        intro w' k' hw' hk'
        show bRd (vp_updL (L 14) w (bWr (L 14 w) (nI k) (nI n)) w') (nI k') = upd (J 5) (40 * w + k) (nI n) (40 * w' + k') ∧ ∃ n2, n2 ≤ 2 ∧ upd (J 5) (40 * w + k) (nI n) (40 * w' + k') = nI n2
        have hk' : k' < (J 4 w').toNatClampNeg := hk'
        obtain ⟨m, hm, em⟩ := R.mnb w' hw'
        have hk3 : k' < 20 := by rw [em, nI_clamp (by omega)] at hk'; omega
        by_cases e : w' = w
        · subst e
          rw [updL_s]
          by_cases e2 : k' = k
          · subst e2
            rw [pk_us, rd_wr _ (by omega) (by omega)]
            exact ⟨rfl, n, hn, rfl⟩
          · rw [pk_un (by omega), rd_wr_ne _ (by omega) (by omega) (by omega) e2]
            exact R.vl w' k' hw' hk'
        · rw [updL_n e, pk_un (by omega)]
          exact R.vl w' k' hw' hk'
end AGR
