/-! The class's limits are the reference's; both find the same labelling. -/
def MB (c : Nat) (D : Nat → Nat → Int → Prop) (X : Nat → Nat → Int32) : Prop := (∀ a b, a ≤ c → b ≤ c → -1 ≤ (X (52 + a) b).toInt ∧ (X (52 + a) b).toInt ≤ 1000) ∧ (∀ a b k, D a b k → a ≤ c → b ≤ c → (X (52 + a) b).toInt ≤ k) ∧ ∀ a b, a ≤ c → b ≤ c → (X (52 + a) b).toInt = 1000 ∨ D a b (X (52 + a) b).toInt
theorem MB_iff {c : Nat} {D D2 : Nat → Nat → Int → Prop} {X : Nat → Nat → Int32} (h : MB c D X) (e : ∀ a b k, D2 a b k ↔ D a b k) : MB c D2 X := ⟨h.1, fun a b k q => h.2.1 a b k ((e a b k).mp q), fun a b ha hb => (h.2.2 a b ha hb).elim Or.inl (fun q => Or.inr ((e _ _ _).mpr q))⟩
theorem lLim_at (X : Nat → Nat → Int32) (a b a2 b2 : Nat) (x : Int32) : lLim X a b x (52 + a2) b2 = if a2 = a ∧ b2 = b then (if x < X (52 + a) b then x else X (52 + a) b) else X (52 + a2) b2 := by
  unfold lLim
  by_cases e : a2 = a
  · subst e
    rw [upI_self]
    by_cases e2 : b2 = b
    · subst e2; rw [pk_us, if_pos (show a2 = a2 ∧ b2 = b2 from ⟨rfl, rfl⟩)]
    · rw [pk_un e2, if_neg (fun q => e2 q.2)]
  · rw [upI_ne _ _ (by omega), if_neg (fun q => e q.1)]
theorem MB_lim {c : Nat} {D : Nat → Nat → Int → Prop} {X : Nat → Nat → Int32} {a b : Nat} {x : Int32} (h : MB c D X) (hx : -1 ≤ x.toInt ∧ x.toInt ≤ 1000) : MB c (fun a2 b2 k => D a2 b2 k ∨ (a2 = a ∧ b2 = b ∧ k = x.toInt)) (lLim X a b x) := by
  have key : ∀ a2 b2, (lLim X a b x (52 + a2) b2).toInt = if a2 = a ∧ b2 = b then (if x.toInt < (X (52 + a2) b2).toInt then x.toInt else (X (52 + a2) b2).toInt) else (X (52 + a2) b2).toInt := fun a2 b2 => by
    rw [lLim_at]
    by_cases e : a2 = a ∧ b2 = b
    · rw [if_pos e, if_pos e, e.1, e.2]
      by_cases q : x < X (52 + a) b
      · rw [if_pos q, if_pos (Int32.lt_iff_toInt_lt.mp q)]
      · rw [if_neg q, if_neg (fun r => q (Int32.lt_iff_toInt_lt.mpr r))]
    · rw [if_neg e, if_neg e]
  refine ⟨fun a2 b2 ha hb => ?_, fun a2 b2 k hD ha hb => ?_, fun a2 b2 ha hb => ?_⟩
  · have := h.1 a2 b2 ha hb
    rw [key]
    split
    · split <;> omega
    · omega
  · rw [key]
    rcases hD with q | ⟨rfl, rfl, rfl⟩
    · have := h.2.1 a2 b2 k q ha hb
      split
      · split <;> omega
      · omega
    · rw [if_pos ⟨rfl, rfl⟩]
      split <;> omega
  · rw [key]
    split
    · rename_i e
      split
      · exact Or.inr (Or.inr ⟨e.1, e.2, rfl⟩)
      · exact (h.2.2 a2 b2 ha hb).elim Or.inl (fun q => Or.inr (Or.inl q))
    · exact (h.2.2 a2 b2 ha hb).elim Or.inl (fun q => Or.inr (Or.inl q))
def lowG (G X : Nat → Nat → Int32) : Prop := ∀ j, j < 52 → X j = G j
theorem M_lp {c : Nat} {G : Nat → Nat → Int32} {f : Nat → (Nat → Nat → Int32) → Nat → Nat → Int32} {D0 : Nat → Nat → Int → Prop} {D : Nat → Nat → Nat → Int → Prop} {X : Nat → Nat → Int32} (h0 : MB c D0 X ∧ lowG G X) : ∀ n, (∀ i, i < n → ∀ D1 X, MB c D1 X → lowG G X → MB c (fun a b k => D1 a b k ∨ D i a b k) (f i X) ∧ lowG G (f i X)) → MB c (fun a b k => D0 a b k ∨ ∃ i, i < n ∧ D i a b k) (lp f n X) ∧ lowG G (lp f n X)
  | 0, _ => ⟨MB_iff h0.1 (fun _ _ _ => ⟨fun q => q.elim id (fun ⟨_, q, _⟩ => absurd q (Nat.not_lt_zero _)), Or.inl⟩), h0.2⟩
  | n + 1, h => by
    obtain ⟨r1, t1⟩ := M_lp h0 n (fun i hi => h i (by omega))
    obtain ⟨r2, t2⟩ := h n (by omega) _ _ r1 t1
    refine ⟨MB_iff r2 (fun a b k => ⟨fun q => ?_, fun q => ?_⟩), t2⟩
    · rcases q with q | ⟨i, hi, q⟩
      · exact Or.inl (Or.inl q)
      · by_cases e : i = n
        · subst e; exact Or.inr q
        · exact Or.inl (Or.inr ⟨i, by omega, q⟩)
    · rcases q with (q | ⟨i, hi, q⟩) | q
      · exact Or.inl q
      · exact Or.inr ⟨i, by omega, q⟩
      · exact Or.inr ⟨n, by omega, q⟩
/-- class's entries and reference's costs of all pairs -/
def Ent (c : Nat) (G J : Nat → Nat → Int32) : Prop := ∀ u v, u < c → v < c → (G (26 + (u + 1)) (v + 1) = -1 ∧ G (39 + (u + 1)) (v + 1) = -1 ∧ rWt (J 12) (u + 1) (v + 1) = 1000) ∨ ∃ r t : Nat, r ≤ 240 ∧ t ≤ 650 ∧ G (26 + (u + 1)) (v + 1) = nI r ∧ G (39 + (u + 1)) (v + 1) = nI t ∧ rWt (J 12) (u + 1) (v + 1) = nI r ∧ rDl (J 12) (J 2) (u + 1) (v + 1) = nI t
section FAG
variable {c : Nat} {G : Nat → Nat → Int32} {L : Nat → Nat → Int64} {J : Nat → Nat → Int32} {k : Int32}
theorem tW_of (E : Ent c G J) : tW c J k := fun u v hu hv ht => by
  rcases E u v hu hv with ⟨_, _, e⟩ | ⟨r, t, hr, _, _, _, e, _⟩
  · have := (of_decide_eq_true ht).1
    rw [e] at this
    exact absurd (by decide) this
  · exact ⟨r, hr, e⟩
theorem M_wire (R : Rel c G L J) {w : Nat} (hw : w < 27) {D1 : Nat → Nat → Int → Prop} {X : Nat → Nat → Int32} (h : MB c D1 X) (hl : lowG G X) : MB c (fun a b k => D1 a b k ∨ Cw J w a b k) (lWire w X) ∧ lowG G (lWire w X) := by
  have hc := R.hc
  refine ⟨?_, fun j hj => by rw [lWire_low hj]; exact hl j hj⟩
  unfold lWire
  have e12 : X 12 w = J 3 w := by rw [hl 12 (by decide), R.fr w hw]
  have e13 : X 13 w = J 4 w := by rw [hl 13 (by decide), R.mn w hw]
  have eb : (bh (X 12) w).toNatClampNeg = cSr J w := by unfold cSr bh; rw [e12]
  rw [e12, e13, eb]
  by_cases h0 : J 3 w = 0
  · rw [if_pos h0]
    exact MB_iff h (fun a b k => ⟨fun q => q.elim id (fun q => absurd h0 q.1), Or.inl⟩)
  · rw [if_neg h0]
    obtain ⟨_, _, _, m, hm, em⟩ := wir R hw h0
    have em2 : (J 4 w).toInt = m := by rw [em, nI_toInt (by omega)]
    have e20 : (20 - J 4 w).toInt = 20 - (J 4 w).toInt := sub_t (by rw [show (20 : Int32).toInt = 20 from rfl]; omega) (by rw [show (20 : Int32).toInt = 20 from rfl]; omega)
    refine MB_iff (MB_lim (MB_lim h (by omega)) (by omega)) (fun a b x => ?_)
    rw [e20]
    constructor
    · intro q
      rcases q with q | ⟨_, q | q⟩
      · exact Or.inl (Or.inl q)
      · exact Or.inl (Or.inr q)
      · exact Or.inr q
    · intro q
      rcases q with (q | q) | q
      · exact Or.inl q
      · exact Or.inr ⟨h0, Or.inl q⟩
      · exact Or.inr ⟨h0, Or.inr q⟩
theorem M_pair (R : Rel c G L J) (E : Ent c G J) (hk : 0 ≤ k) {u v : Nat} (hu : u < c) (hv : v < c) {D1 : Nat → Nat → Int → Prop} {X : Nat → Nat → Int32} (h : MB c D1 X) (hl : lowG G X) : MB c (fun a b x => D1 a b x ∨ kCt J k u v a b x) (lP1 X (u + 1) (v + 1) k) ∧ lowG G (lP1 X (u + 1) (v + 1) k) := by
  have hc := R.hc
  refine ⟨?_, fun j hj => by rw [lP1_low hj]; exact hl j hj⟩
  unfold lP1
  rw [hl (39 + (u + 1)) (by omega), hl (26 + (u + 1)) (by omega)]
  rcases E u v hu hv with ⟨e1, e2, e3⟩ | ⟨r, t, hr, ht, e1, e2, e3, e4⟩
  · have hn : rTi (J 12) (J 2) k (u + 1) (v + 1) = false := decide_eq_false (fun q => q.1 (by rw [e3]; decide))
    rw [e2, if_pos (show (-1 : Int32) ≤ k by rw [Int32.le_iff_toInt_le] at hk ⊢; rw [show (-1 : Int32).toInt = -1 from rfl]; rw [show (0 : Int32).toInt = 0 from rfl] at hk; omega)]
    exact MB_iff h (fun a b x => ⟨fun q => q.elim id (fun q => absurd (hn.symm.trans q.1) Bool.false_ne_true), Or.inl⟩)
  · have er : (nI r).toInt = r := nI_toInt (by omega)
    have h1000 : ¬ 1000 ≤ rWt (J 12) (u + 1) (v + 1) := by rw [e3]; exact nI_ge (b := 1000) (a := r) (by omega) (by decide)
    have hti : rTi (J 12) (J 2) k (u + 1) (v + 1) = true ↔ ¬ nI t ≤ k := by
      unfold rTi
      rw [decide_eq_true_iff, e4]
      exact ⟨fun q => q.2, fun q => ⟨h1000, q⟩⟩
    rw [e1, e2]
    by_cases q : nI t ≤ k
    · rw [if_pos q]
      exact MB_iff h (fun a b x => ⟨fun p => p.elim id (fun p => absurd q (hti.mp p.1)), Or.inl⟩)
    · rw [if_neg q]
      have es : (nI r - 1).toInt = (r : Int) - 1 := by rw [sub_t (by rw [er, show (1 : Int32).toInt = 1 from rfl]; omega) (by rw [er, show (1 : Int32).toInt = 1 from rfl]; omega), er]; rfl
      refine MB_iff (MB_lim h (by omega)) (fun a b x => ?_)
      rw [es]
      constructor
      · intro p
        rcases p with p | ⟨_, p1, p2, p3⟩
        · exact Or.inl p
        · rw [e3, er] at p3
          exact Or.inr ⟨p1, p2, p3⟩
      · intro p
        rcases p with p | ⟨p1, p2, p3⟩
        · exact Or.inl p
        · exact Or.inr ⟨hti.mpr q, p1, p2, by rw [e3, er]; exact p3⟩
theorem lS1_is {X : Nat → Nat → Int32} {a b : Nat} (ha : a ≤ c) (hb : b ≤ c) : lS1 c X (52 + a) b = 1000 := by
  have hin : ∀ (i : Nat) (Y : Nat → Nat → Int32) (m : Nat), (∀ b, b < m → lp (fun b G => upI G (52 + i) (upd (G (52 + i)) b 1000)) m Y (52 + i) b = 1000) ∧ ∀ a, ¬ a = i → lp (fun b G => upI G (52 + i) (upd (G (52 + i)) b 1000)) m Y (52 + a) = Y (52 + a) := by
    intro i Y m
    induction m with
    | zero => exact ⟨fun b hb => absurd hb (Nat.not_lt_zero _), fun _ _ => rfl⟩
    | succ m ih =>
      obtain ⟨h1, h2⟩ := ih
      refine ⟨fun b hb => ?_, fun a ha => ?_⟩
      · show upI _ (52 + i) (upd _ m 1000) (52 + i) b = 1000
        rw [upI_self]
        by_cases e : b = m
        · rw [e, pk_us]
        · rw [pk_un e]; exact h1 b (by omega)
      · show upI _ (52 + i) (upd _ m 1000) (52 + a) = _
        rw [upI_ne _ _ (by omega)]; exact h2 a ha
  have hout : ∀ m, ∀ a, a < m → ∀ b, b ≤ c → lp (fun a G => lp (fun b G => upI G (52 + a) (upd (G (52 + a)) b 1000)) (c + 1) G) m X (52 + a) b = 1000 := by
    intro m
    induction m with
    | zero => exact fun a ha => absurd ha (Nat.not_lt_zero _)
    | succ m ih =>
      intro a ha b hb
      show lp (fun b G => upI G (52 + m) (upd (G (52 + m)) b 1000)) (c + 1) (lp (fun a G => lp (fun b G => upI G (52 + a) (upd (G (52 + a)) b 1000)) (c + 1) G) m X) (52 + a) b = 1000
      by_cases e : a = m
      · subst e; exact (hin a _ (c + 1)).1 b (by omega)
      · rw [(hin m _ (c + 1)).2 a e]; exact ih a (by omega) b hb
  exact hout (c + 1) a (by omega) b hb
theorem lSet_is (R : Rel c G L J) (E : Ent c G J) (hk : 0 ≤ k) : MB c (Cn c J k) (lSet c k G) := by
  have h1 : MB c (fun _ _ _ => False) (lS1 c G) ∧ lowG G (lS1 c G) := ⟨⟨fun a b ha hb => by rw [lS1_is ha hb]; decide, fun _ _ _ q => q.elim, fun a b ha hb => Or.inl (by rw [lS1_is ha hb]; rfl)⟩, fun j hj => lS1_low hj⟩
  have h2 := M_lp (f := lWire) (D := fun w => Cw J w) h1 27 (fun w hw D1 X h hl => M_wire R hw h hl)
  have h3 := M_lp (f := fun u G => lP2 c k (u + 1) G) (D := fun u a b x => ∃ v, v < c ∧ kCt J k u v a b x) h2 c (fun u hu D1 X h hl => by
    show MB c _ (lP2 c k (u + 1) X) ∧ lowG G (lP2 c k (u + 1) X)
    unfold lP2
    exact M_lp (f := fun i I => lP1 I (u + 1) (i + 1) k) (D := fun v => kCt J k u v) ⟨h, hl⟩ c (fun v hv D1 X h hl => M_pair R E hk hu hv h hl))
  unfold lSet lS2
  refine MB_iff h3.1 (fun a b x => ⟨fun q => ?_, fun q => ?_⟩)
  · rcases q with q | q
    · exact Or.inl (Or.inr q)
    · exact Or.inr q
  · rcases q with (q | q) | q
    · exact q.elim
    · exact Or.inl q
    · exact Or.inr q
theorem Cn_in (R : Rel c G L J) {a b : Nat} {x : Int} (hC : Cn c J k a b x) : a ≤ c ∧ b ≤ c := by
  rcases hC with ⟨w, hw, h0, q⟩ | ⟨u, hu, v, hv, _, q1, q2, _⟩
  · obtain ⟨s1, s2, _⟩ := wir R hw h0
    rcases q with ⟨q1, q2, _⟩ | ⟨q1, q2, _⟩ <;> subst q1 <;> subst q2 <;> exact ⟨by assumption, by assumption⟩
  · omega
theorem Sol_same (R : Rel c G L J) {X : Nat → Nat → Int32} (h : MB c (Cn c J k) X) {top : Int} (ht : top ≤ 6) (g : Nat → Int) : Sol (kCM c (fun a b => X (52 + a) b)) c top g ↔ Sol (Cn c J k) c top g := by
  constructor
  · intro s
    refine ⟨s.1, s.2.1, fun a b x hC => ?_⟩
    obtain ⟨ha, hb⟩ := Cn_in R hC
    have h1 : g a ≤ g b + (X (52 + a) b).toInt := s.2.2 a b _ ⟨ha, hb, rfl⟩
    have h2 := h.2.1 a b x hC ha hb
    omega
  · intro s
    refine ⟨s.1, s.2.1, fun a b x hC => ?_⟩
    obtain ⟨ha, hb, hx⟩ := hC
    rw [hx]
    have hbd : ∀ a, a ≤ c → -6 ≤ g a ∧ g a ≤ 6 := fun a ha => by
      by_cases e : a = 0
      · rw [e, s.1]; omega
      · have := s.2.1 a (by omega) ha; omega
    rcases h.2.2 a b ha hb with e | e
    · show g a ≤ g b + (X (52 + a) b).toInt
      rw [e]
      have := hbd a ha
      have := hbd b hb
      omega
    · exact s.2.2 a b _ e
/-- class and reference find the same labelling -/
theorem find_agrX (R : Rel c G L J) (hW : tW c J k) {X : Nat → Nat → Int32} (hM : MB c (Cn c J k) X) {tp : Int32} (htp : tp = 6 ∨ tp = 0) : ∃ q, rFind c J k tp = some q ∧ q.2 = (lSol c tp X).2 ∧ (q.2 = true → (∀ a, 1 ≤ a → a ≤ c → (lSol c tp X).1 a = q.1 a) ∧ (lSol c tp X).1 0 = 0 ∧ lB c q.1 ∧ Sol (Cn c J k) c tp.toInt (iv q.1)) ∧ (q.2 = true ↔ ∃ g, Sol (Cn c J k) c tp.toInt g) := by
  have hc := R.hc
  have htb : tp.toInt ≤ 6 := by rcases htp with e | e <;> (rw [e]; decide)
  obtain ⟨q, e1, f1, f2⟩ := find_is R hW htp
  obtain ⟨⟨g1, g2⟩, g3⟩ := sol_is hc hM.1 htp
  have same := fun g => Sol_same R hM (top := tp.toInt) htb g
  have hAb : ∀ f, Abv (kCM c (fun a b => X (52 + a) b)) c tp.toInt f → Abv (Cn c J k) c tp.toInt f := fun f h g hg => h g ((same g).mpr hg)
  have hiff : q.2 = true ↔ ∃ g, Sol (Cn c J k) c tp.toInt g := by
    constructor
    · exact fun e => ⟨_, (f1 e).2.1⟩
    · rintro ⟨g, hg⟩
      cases h : q.2 with
      | true => rfl
      | false => exact absurd hg (f2 h g)
  refine ⟨q, e1, ?_, fun e => ?_, hiff⟩
  · cases h : (lSol c tp X).2 with
    | true => exact hiff.mpr ⟨_, (same _).mp (g1 h).2.1⟩
    | false =>
      cases h2 : q.2 with
      | false => rfl
      | true => exact absurd ((same _).mpr (f1 h2).2.1) (g2 h _)
  · have h : (lSol c tp X).2 = true := by
      cases h : (lSol c tp X).2 with
      | true => rfl
      | false => exact absurd ((same _).mpr (f1 e).2.1) (g2 h _)
    obtain ⟨b1, s1, a1⟩ := f1 e
    obtain ⟨b2, s2, a2⟩ := g1 h
    refine ⟨fun a q1 q2 => ?_, g3 h, b1, s1⟩
    have := Abv_eq (hAb _ a2) a1 ((same _).mp s2) s1 a q2
    rw [iv_p q1, iv_p q1] at this
    exact Int32.toInt_inj.mp this
theorem find_agr (R : Rel c G L J) (E : Ent c G J) (hk : 0 ≤ k) {tp : Int32} (htp : tp = 6 ∨ tp = 0) : ∃ q, rFind c J k tp = some q ∧ q.2 = (lSol c tp (lSet c k G)).2 ∧ (q.2 = true → (∀ a, 1 ≤ a → a ≤ c → (lSol c tp (lSet c k G)).1 a = q.1 a) ∧ (lSol c tp (lSet c k G)).1 0 = 0 ∧ lB c q.1 ∧ Sol (Cn c J k) c tp.toInt (iv q.1)) ∧ (q.2 = true ↔ ∃ g, Sol (Cn c J k) c tp.toInt g) := find_agrX R (tW_of E) (lSet_is R E hk) htp
end FAG
