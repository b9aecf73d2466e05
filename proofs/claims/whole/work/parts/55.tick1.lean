/-! A tick: the gates' answers agree. -/
def d3 (x : Int32) : Prop := ∃ n, n ≤ 2 ∧ x = nI n
theorem made_dom : ∀ k, k < 5 → ∀ x, x < 3 → ∀ y, y < 3 → ∃ n, n < 3 ∧ rMade (nI k) (nI x) (nI y) = nI n := by decide
theorem made_eq : ∀ k, k < 5 → ∀ x, x < 3 → ∀ y, y < 3 → gMade (nI k) (nI x) (nI y) = rMade (nI k) (nI x) (nI y) := by decide
theorem made_one : ∀ k, k < 2 → ∀ x, x < 3 → ∀ y, y < 3 → gMade (nI k) (nI x) 2 = rMade (nI k) (nI x) (nI y) := by decide
theorem d3_made {k x y : Int32} (hk : ∃ n, n ≤ 4 ∧ k = nI n) (hx : d3 x) (hy : d3 y) : d3 (rMade k x y) ∧ gMade k x y = rMade k x y := by
  obtain ⟨k, hk, rfl⟩ := hk
  obtain ⟨x, hx, rfl⟩ := hx
  obtain ⟨y, hy, rfl⟩ := hy
  obtain ⟨n, hn, e⟩ := made_dom k (by omega) x (by omega) y (by omega)
  exact ⟨⟨n, by omega, e⟩, made_eq k (by omega) x (by omega) y (by omega)⟩
theorem pn_one {kd : Nat → Int32} {g n : Nat} (h : kd g = nI n) (hn : n ≤ 4) : (pn kd g = 2 ↔ 2 ≤ n) ∧ (pn kd g = 1 ↔ n < 2) := by
  have e : (1 : Int32) < kd g ↔ 2 ≤ n := by
    rw [h]
    constructor
    · intro q
      by_cases h2 : 2 ≤ n
      · exact h2
      · exact absurd q (nI_nlt (a := 1) (by omega) (by decide))
    · intro q; exact nI_lt (a := 1) (by omega) (by omega)
  unfold pn
  by_cases q : (1 : Int32) < kd g
  · rw [if_pos q]
    have := e.mp q
    constructor <;> constructor <;> intro <;> omega
  · rw [if_neg q]
    have : ¬ 2 ≤ n := fun h => q (e.mpr h)
    constructor <;> constructor <;> intro <;> omega
section TCK
variable {c : Nat} {I : Nat → Nat → Int32} {L : Nat → Nat → Int64} {J : Nat → Nat → Int32} {a b d : Int32}
/-- the second wire that a gate reads: its second pin's, or its one pin's again -/
def w2 (J : Nat → Nat → Int32) (g : Nat) : Nat := if pn (J 1) g = 2 then 2 * g - 2 + 1 else 2 * g - 2
/-- what a gate answers when the gates' answers are f -/
def rGt (J : Nat → Nat → Int32) (f : Nat → Int32) (a b d : Int32) (g : Nat) : Int32 := rMade (J 1 g) (rTw J f a b d (2 * g - 2)) (rTw J f a b d (w2 J g))
theorem cV_eq (R : Rel c I L J) {V f : Nat → Int32} (h2 : V 2 = a) (h1 : V 1 = b) (h0 : V 0 = d) {w : Nat} (hw : w < 27) (hn : ¬ J 3 w = 0) (hf : J 4 w = 0 → ∀ g, 1 ≤ g → g ≤ c → J 3 w = nI g → V (3 + g) = f g) : cV (I 12) (I 65) (L 66) V w = rTw J f a b d w := by
  have hc := R.hc
  unfold cV rTw
  rw [R.rn w hw, R.fr w hw]
  obtain ⟨m, hm, em⟩ := R.mnb w hw
  by_cases q : J 4 w ≤ 0
  · rw [if_pos q, if_pos q]
    have e0 : J 4 w = 0 := by
      rw [em] at q ⊢
      by_cases e : m = 0
      · rw [e]; rfl
      · exact absurd q (nI_ge (a := 0) (b := m) (by omega) (by omega))
    unfold rIn
    rcases R.frb w hw with (e | e | e) | ⟨g, hg, e⟩
    · rw [e, if_neg (not_not_intro rfl)]; exact h2
    · rw [e, if_pos (by decide), if_neg (not_not_intro rfl)]; exact h1
    · rw [e, if_pos (by decide), if_pos (by decide), if_neg (not_not_intro rfl)]; exact h0
    · have g1 : 1 ≤ g := by
        by_cases e2 : g = 0
        · subst e2; exact absurd e hn
        · omega
      have hneg : ∀ x : Int32, x < 0 → ¬ nI g = x := fun x hx q => nI_pos (n := g) (by omega) (by rw [q]; exact hx)
      rw [e, if_pos (hneg _ (by decide)), if_pos (hneg _ (by decide)), if_pos (hneg _ (by decide)), nI_clamp (by omega), show (3 : Int32) = nI 3 from rfl, nI_add, nI_clamp (by omega)]
      exact hf e0 g g1 hg e
  · rw [if_neg q, if_neg q]
    have hm0 : ¬ m = 0 := fun e => q (by rw [em, e]; decide)
    exact (R.rv w 0 hw (by rw [em, nI_clamp (by omega)]; omega)).1
theorem rTw_congr (R : Rel c I L J) {f f2 : Nat → Int32} {w : Nat} (hw : w < 27) (hn : ¬ J 3 w = 0) (hf : J 4 w = 0 → ∀ g, 1 ≤ g → g ≤ c → J 3 w = nI g → f g = f2 g) : rTw J f a b d w = rTw J f2 a b d w := by
  have hc := R.hc
  unfold rTw
  obtain ⟨m, hm, em⟩ := R.mnb w hw
  by_cases q : J 4 w ≤ 0
  · rw [if_pos q, if_pos q]
    have e0 : J 4 w = 0 := by
      rw [em] at q ⊢
      by_cases e : m = 0
      · rw [e]; rfl
      · exact absurd q (nI_ge (a := 0) (b := m) (by omega) (by omega))
    unfold rIn
    rcases R.frb w hw with (e | e | e) | ⟨g, hg, e⟩
    · rw [e, if_neg (not_not_intro rfl), if_neg (not_not_intro rfl)]
    · rw [e, if_pos (by decide), if_neg (not_not_intro rfl), if_pos (by decide), if_neg (not_not_intro rfl)]
    · rw [e, if_pos (by decide), if_pos (by decide), if_neg (not_not_intro rfl), if_pos (by decide), if_pos (by decide), if_neg (not_not_intro rfl)]
    · have g1 : 1 ≤ g := by
        by_cases e2 : g = 0
        · subst e2; exact absurd e hn
        · omega
      rw [e, nI_clamp (by omega), hf e0 g g1 hg e]
  · rw [if_neg q, if_neg q]
theorem rTw_dom (R : Rel c I L J) (ha : d3 a) (hb : d3 b) (hd : d3 d) {f : Nat → Int32} {w : Nat} (hw : w < 27) (hn : ¬ J 3 w = 0) (hf : J 4 w = 0 → ∀ g, 1 ≤ g → g ≤ c → J 3 w = nI g → d3 (f g)) : d3 (rTw J f a b d w) := by
  have hc := R.hc
  unfold rTw
  obtain ⟨m, hm, em⟩ := R.mnb w hw
  by_cases q : J 4 w ≤ 0
  · rw [if_pos q]
    have e0 : J 4 w = 0 := by
      rw [em] at q ⊢
      by_cases e : m = 0
      · rw [e]; rfl
      · exact absurd q (nI_ge (a := 0) (b := m) (by omega) (by omega))
    unfold rIn
    rcases R.frb w hw with (e | e | e) | ⟨g, hg, e⟩
    · rw [e, if_neg (not_not_intro rfl)]; exact ha
    · rw [e, if_pos (by decide), if_neg (not_not_intro rfl)]; exact hb
    · rw [e, if_pos (by decide), if_pos (by decide), if_neg (not_not_intro rfl)]; exact hd
    · have g1 : 1 ≤ g := by
        by_cases e2 : g = 0
        · subst e2; exact absurd e hn
        · omega
      have hneg : ∀ x : Int32, x < 0 → ¬ nI g = x := fun x hx q => nI_pos (n := g) (by omega) (by rw [q]; exact hx)
      rw [e, if_pos (hneg _ (by decide)), if_pos (hneg _ (by decide)), if_pos (hneg _ (by decide)), nI_clamp (by omega)]
      exact hf e0 g g1 hg e
  · rw [if_neg q]
    have hm0 : ¬ m = 0 := fun e => q (by rw [em, e]; decide)
    exact (R.rv w 0 hw (by rw [em, nI_clamp (by omega)]; omega)).2
theorem pins_on (R : Rel c I L J) (hs : sndB c I = true) {g k : Nat} (g1 : 1 ≤ g) (g2 : g ≤ c) (hk : k < pn (J 1) g) : ¬ J 3 (2 * g - 2 + k) = 0 := by
  have hc := R.hc
  have h1 : isCompl c (I 10) (I 12) = true := by
    unfold sndB at hs
    rw [Bool.and_eq_true] at hs
    exact hs.1
  rw [cmp_eq R] at h1
  have h2 := allB_iff.mp h1 (g - 1) (by omega)
  rw [Bool.and_eq_true] at h2
  have h3 := h2.2
  unfold rPns at h3
  rw [show g - 1 + 1 = g from by omega] at h3
  have h4 := of_decide_eq_true (allB_iff.mp h3 k hk)
  rw [show 2 * (g - 1) + k = 2 * g - 2 + k from by omega] at h4
  exact h4
/-- the class's values behind the first n gates of the order pl -/
def sV (I : Nat → Nat → Int32) (L : Nat → Nat → Int64) (pl : Nat → Nat) (V0 : Nat → Int32) (n : Nat) : Nat → Int32 := lp (fun a V => sStep (I 10) (I 12) (I 65) (L 66) (pl a) V) n V0
theorem sV_in {pl : Nat → Nat} {V0 : Nat → Int32} {j : Nat} (hj : j < 3) : ∀ n, sV I L pl V0 n j = V0 j
  | 0 => rfl
  | n + 1 => by
    show upd (sV I L pl V0 n) (3 + pl n) _ j = V0 j
    rw [pk_un (by omega)]
    exact sV_in hj n
theorem sV_keep {pl : Nat → Nat} {V0 : Nat → Int32} (hinj : ∀ a b, a < c → b < c → pl a = pl b → a = b) {i : Nat} (hi : i < c) : ∀ n, i + 1 ≤ n → n ≤ c → sV I L pl V0 n (3 + pl i) = sV I L pl V0 (i + 1) (3 + pl i)
  | 0, h, _ => absurd h (by omega)
  | n + 1, h, hn => by
    by_cases e : n = i
    · subst e; rfl
    · show upd (sV I L pl V0 n) (3 + pl n) _ (3 + pl i) = _
      rw [pk_un (fun q => e (hinj n i (by omega) hi (by omega)))]
      exact sV_keep hinj hi n (by omega) (by omega)
theorem class_fix (R : Rel c I L J) (hs : sndB c I = true) (ha : d3 a) (hb : d3 b) (hd : d3 d) {pl : Nat → Nat} {V0 : Nat → Int32} (v2 : V0 2 = a) (v1 : V0 1 = b) (v0 : V0 0 = d) (p1 : ∀ a, a < c → 1 ≤ pl a ∧ pl a ≤ c) (p3 : ∀ a b, a < c → b < c → pl a = pl b → a = b) (p4 : ∀ a δ, a < c → depW c J (pl a) δ → ∃ b, b < a ∧ pl b = δ) :
    ∀ n i, i < n → n ≤ c → d3 (sV I L pl V0 c (3 + pl i)) ∧ sV I L pl V0 c (3 + pl i) = rGt J (fun g => sV I L pl V0 c (3 + g)) a b d (pl i) := by
  have hc := R.hc
  intro n
  induction n with
  | zero => intro i hi; omega
  | succ n ih =>
    intro i hi hn
    by_cases e : i = n
    · subst e
      obtain ⟨g1, g2⟩ := p1 i (by omega)
      rw [sV_keep p3 (by omega) c (by omega) (Nat.le_refl _)]
      have hdep : ∀ w, (∃ k, k < pn (J 1) (pl i) ∧ w = 2 * pl i - 2 + k) → ∀ g, J 4 w = 0 → 1 ≤ g → g ≤ c → J 3 w = nI g → ∃ b, b < i ∧ pl b = g := fun w hw g h4 q1 q2 h3 => by
        obtain ⟨k, hk, rfl⟩ := hw
        exact p4 i g (by omega) ⟨q1, q2, k, hk, h4, h3⟩
      have hp := pn_le (J 1) (pl i)
      have hval : ∀ w, w < 27 → (∃ k, k < pn (J 1) (pl i) ∧ w = 2 * pl i - 2 + k) → cV (I 12) (I 65) (L 66) (sV I L pl V0 i) w = rTw J (fun g => sV I L pl V0 c (3 + g)) a b d w ∧ d3 (rTw J (fun g => sV I L pl V0 c (3 + g)) a b d w) := fun w hw hk => by
        have hnz : ¬ J 3 w = 0 := by obtain ⟨k, hk, rfl⟩ := hk; exact pins_on R hs g1 g2 hk
        refine ⟨cV_eq R ((sV_in (by decide) i).trans v2) ((sV_in (by decide) i).trans v1) ((sV_in (by decide) i).trans v0) hw hnz (fun h4 g q1 q2 h3 => ?_), rTw_dom R ha hb hd hw hnz (fun h4 g q1 q2 h3 => ?_)⟩
        · obtain ⟨b', hb', rfl⟩ := hdep w hk g h4 q1 q2 h3
          rw [sV_keep p3 (by omega) i (by omega) (by omega)]
          exact (sV_keep p3 (by omega) c (by omega) (Nat.le_refl _)).symm
        · obtain ⟨b', hb', rfl⟩ := hdep w hk g h4 q1 q2 h3
          exact (ih b' hb' (by omega)).1
      obtain ⟨e1, e2⟩ := hval (2 * pl i - 2) (by omega) ⟨0, by omega, rfl⟩
      obtain ⟨kn, hkn, ek⟩ := R.kdb (pl i) (by omega)
      have hpn := pn_one ek hkn
      have es : sV I L pl V0 (i + 1) = upd (sV I L pl V0 i) (3 + pl i) (gMade (I 10 (pl i)) (cV (I 12) (I 65) (L 66) (sV I L pl V0 i) (2 * pl i - 2)) (if ¬ nI (pn (I 10) (pl i)) = 2 then 2 else cV (I 12) (I 65) (L 66) (sV I L pl V0 i) (2 * pl i - 2 + 1))) := rfl
      rw [es, pk_us, R.kd (pl i) (by omega), e1, pn_eq (R.kd (pl i) (by omega))]
      unfold rGt w2
      by_cases q : pn (J 1) (pl i) = 2
      · rw [if_neg (show ¬ ¬ nI (pn (J 1) (pl i)) = 2 from not_not_intro (by rw [q]; rfl)), if_pos q]
        obtain ⟨f1, f2⟩ := hval (2 * pl i - 2 + 1) (by omega) ⟨1, by omega, rfl⟩
        rw [f1]
        obtain ⟨m1, m2⟩ := d3_made (R.kdb (pl i) (by omega)) e2 f2
        rw [m2]
        exact ⟨m1, rfl⟩
      · have q1 : pn (J 1) (pl i) = 1 := by omega
        rw [if_pos (show ¬ nI (pn (J 1) (pl i)) = 2 from by rw [q1]; decide), if_neg q]
        obtain ⟨m1, m2⟩ := d3_made (R.kdb (pl i) (by omega)) e2 e2
        obtain ⟨x, hx, ex⟩ := e2
        rw [ex] at m1 ⊢
        rw [ek] at m1 ⊢
        rw [made_one kn (hpn.2.mp q1) x (by omega) x (by omega)]
        exact ⟨m1, rfl⟩
    · exact ih i (by omega) (by omega)
/-- rounds over all gates come to the same answers -/
theorem ref_fix (R : Rel c I L J) (hs : sndB c I = true) {pl : Nat → Nat} {X : Nat → Int32} (p1 : ∀ a, a < c → 1 ≤ pl a ∧ pl a ≤ c) (p2 : ∀ g, 1 ≤ g → g ≤ c → ∃ a, a < c ∧ pl a = g) (p3 : ∀ a b, a < c → b < c → pl a = pl b → a = b) (p4 : ∀ a δ, a < c → depW c J (pl a) δ → ∃ b, b < a ∧ pl b = δ) (hX : ∀ i, i < c → X (pl i) = rGt J X a b d (pl i)) (f0 : Nat → Int32) : ∀ k, k ≤ c → ∀ i, i < k → lp (rTr c J a b d) k f0 (pl i) = X (pl i) := by
  have hc := R.hc
  intro k
  induction k with
  | zero => intro _ i hi; omega
  | succ k ih =>
    intro hk
    have ih := ih (by omega)
    show ∀ i, i < k + 1 → lp (rTg J a b d) c (lp (rTr c J a b d) k f0) (pl i) = X (pl i)
    generalize lp (rTr c J a b d) k f0 = f at ih ⊢
    have inner : ∀ n, n ≤ c → ∀ i, i < k + 1 → (i < k ∨ pl i ≤ n) → lp (rTg J a b d) n f (pl i) = X (pl i) := by
      intro n
      induction n with
      | zero =>
        intro _ i hi h
        rcases h with h | h
        · exact ih i h
        · have := p1 i (by omega); omega
      | succ n ihn =>
        intro hn i hi h
        have ihn := ihn (by omega)
        show upd (lp (rTg J a b d) n f) (n + 1) (rMade (J 1 (n + 1)) (rTw J (lp (rTg J a b d) n f) a b d (2 * n)) (rTw J (lp (rTg J a b d) n f) a b d (if pn (J 1) (n + 1) = 2 then 2 * n + 1 else 2 * n))) (pl i) = X (pl i)
        by_cases e : pl i = n + 1
        · rw [e, pk_us]
          obtain ⟨g1, g2⟩ := p1 i (by omega)
          have hp := pn_le (J 1) (n + 1)
          have hval : ∀ w, w < 27 → (∃ j, j < pn (J 1) (pl i) ∧ w = 2 * pl i - 2 + j) → rTw J (lp (rTg J a b d) n f) a b d w = rTw J X a b d w := fun w hw hj => by
            have hnz : ¬ J 3 w = 0 := by obtain ⟨j, hj, rfl⟩ := hj; exact pins_on R hs g1 g2 hj
            refine rTw_congr R hw hnz (fun h4 g q1 q2 h3 => ?_)
            obtain ⟨j, hj, rfl⟩ := hj
            obtain ⟨b', hb', rfl⟩ := p4 i g (by omega) ⟨q1, q2, j, hj, h4, h3⟩
            exact ihn b' (by omega) (Or.inl (by omega))
          have hxi := hX i (by omega)
          rw [e] at hxi hval
          rw [hxi]
          unfold rGt w2
          rw [show 2 * (n + 1) - 2 = 2 * n from by omega] at hval ⊢
          rw [hval (2 * n) (by omega) ⟨0, by omega, rfl⟩]
          by_cases q : pn (J 1) (n + 1) = 2
          · rw [if_pos q, hval (2 * n + 1) (by omega) ⟨1, by omega, rfl⟩]
          · rw [if_neg q, hval (2 * n) (by omega) ⟨0, by omega, rfl⟩]
        · rw [pk_un e]
          exact ihn i hi (by omega)
    intro i hi
    exact inner c (Nat.le_refl _) i hi (Or.inr (p1 i (by omega)).2)
end TCK
