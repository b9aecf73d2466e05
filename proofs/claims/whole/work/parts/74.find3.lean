/-! The class's solve: it finds the greatest labelling, or there is none. -/
/-- the class's limits as numbers -/
def kCM (c : Nat) (M : Nat → Nat → Int32) (a b : Nat) (k : Int) : Prop := a ≤ c ∧ b ≤ c ∧ k = (M a b).toInt
def tnI (f : Nat → Int32) (a : Nat) : Int := (f a).toInt
theorem Abv_ext {C : Nat → Nat → Int → Prop} {c : Nat} {top : Int} {f f2 : Nat → Int} (h : Abv C c top f) (e : ∀ a, a ≤ c → f a = f2 a) : Abv C c top f2 := fun g hg a ha => by rw [← e a ha]; exact h g hg a ha
def kLI (C : Nat → Nat → Int → Prop) (c : Nat) (top : Int) (n : Nat) (f : Nat → Int32) : Prop := (∀ a, a ≤ c → -6 - (n : Int) ≤ (f a).toInt ∧ (f a).toInt ≤ 6) ∧ Abv C c top (tnI f)
def LTr (c : Nat) (M : Nat → Nat → Int32) (D : Nat → Nat → Prop) (s t : lS) : Prop := (∀ a, a ≤ c → (t.1 a).toInt ≤ (s.1 a).toInt) ∧ (t.2 = 0 → s.2 = 0 ∧ (∀ a, a ≤ c → t.1 a = s.1 a) ∧ ∀ a b, D a b → a ≤ c → b ≤ c → (s.1 a).toInt ≤ (s.1 b).toInt + (M a b).toInt) ∧ (¬ t.2 = 0 → ¬ s.2 = 0 ∨ ∃ a, a ≤ c ∧ (t.1 a).toInt < (s.1 a).toInt)
theorem LTr_refl (c : Nat) (M : Nat → Nat → Int32) (s : lS) : LTr c M (fun _ _ => False) s s := ⟨fun _ _ => Int.le_refl _, fun h => ⟨h, fun _ _ => rfl, fun _ _ h => h.elim⟩, fun h => Or.inl h⟩
theorem LTr_comp {c : Nat} {M : Nat → Nat → Int32} {D1 D2 : Nat → Nat → Prop} {s t u : lS} (h1 : LTr c M D1 s t) (h2 : LTr c M D2 t u) : LTr c M (fun a b => D1 a b ∨ D2 a b) s u := by
  refine ⟨fun a ha => Int.le_trans (h2.1 a ha) (h1.1 a ha), fun hu => ?_, fun hu => ?_⟩
  · obtain ⟨q1, q2, q3⟩ := h2.2.1 hu
    obtain ⟨p1, p2, p3⟩ := h1.2.1 q1
    refine ⟨p1, fun a ha => by rw [q2 a ha, p2 a ha], fun a b hD ha hb => ?_⟩
    rcases hD with h | h
    · exact p3 a b h ha hb
    · rw [← p2 a ha, ← p2 b hb]; exact q3 a b h ha hb
  · rcases h2.2.2 hu with q | ⟨a, ha, q⟩
    · rcases h1.2.2 q with p | ⟨a, ha, p⟩
      · exact Or.inl p
      · exact Or.inr ⟨a, ha, Int.lt_of_le_of_lt (h2.1 a ha) p⟩
    · exact Or.inr ⟨a, ha, Int.lt_of_lt_of_le q (h1.1 a ha)⟩
theorem LTr_weak {c : Nat} {M : Nat → Nat → Int32} {D D2 : Nat → Nat → Prop} {s t : lS} (h : LTr c M D s t) (hD : ∀ a b, D2 a b → D a b) : LTr c M D2 s t := ⟨h.1, fun e => ⟨(h.2.1 e).1, (h.2.1 e).2.1, fun a b q => (h.2.1 e).2.2 a b (hD a b q)⟩, h.2.2⟩
section CLS
variable {c : Nat} {M : Nat → Nat → Int32} {top : Int}
theorem L_step (hM : ∀ a b, a ≤ c → b ≤ c → -1 ≤ (M a b).toInt ∧ (M a b).toInt ≤ 1000) {a b n : Nat} (ha : a ≤ c) (hb : b ≤ c) (hn : n < 1000) {s : lS} (hs : kLI (kCM c M) c top n s.1) : kLI (kCM c M) c top (n + 1) (lStep M a b s).1 ∧ LTr c M (fun a2 b2 => a2 = a ∧ b2 = b) s (lStep M a b s) := by
  obtain ⟨hB, hA⟩ := hs
  have h1 := hB a ha
  have h2 := hB b hb
  have h3 := hM a b ha hb
  have ea : (s.1 b + M a b).toInt = (s.1 b).toInt + (M a b).toInt := add_t (by omega) (by omega)
  unfold lStep
  by_cases q : s.1 a ≤ s.1 b + M a b
  · rw [if_pos q]
    rw [Int32.le_iff_toInt_le, ea] at q
    refine ⟨⟨fun j hj => ?_, hA⟩, fun _ _ => Int.le_refl _, fun h => ⟨h, fun _ _ => rfl, fun a2 b2 e _ _ => ?_⟩, fun h => Or.inl h⟩
    · have := hB j hj; omega
    · rw [e.1, e.2]; exact q
  · rw [if_neg q]
    rw [Int32.le_iff_toInt_le, ea] at q
    have hu : ∀ j, (upd s.1 a (s.1 b + M a b) j).toInt = if j = a then (s.1 b).toInt + (M a b).toInt else (s.1 j).toInt := fun j => by
      by_cases e : j = a
      · rw [if_pos e, e, pk_us, ea]
      · rw [if_neg e, pk_un e]
    refine ⟨⟨fun j hj => ?_, ?_⟩, fun j hj => ?_, fun h => absurd h (by decide : ¬ (1 : Int32) = 0), fun _ => Or.inr ⟨a, ha, ?_⟩⟩
    · have h4 := hB j hj
      show _ ≤ (upd s.1 a (s.1 b + M a b) j).toInt ∧ (upd s.1 a (s.1 b + M a b) j).toInt ≤ 6
      rw [hu]
      split
      · omega
      · omega
    · refine Abv_low (a := a) (b := b) (k := (M a b).toInt) hA ⟨ha, hb, rfl⟩ hb (fun j hj => ?_)
      show (upd s.1 a (s.1 b + M a b) j).toInt = _
      rw [hu]
      show _ = if j = a then (if (s.1 a).toInt ≤ (s.1 b).toInt + (M a b).toInt then (s.1 a).toInt else (s.1 b).toInt + (M a b).toInt) else (s.1 j).toInt
      rw [if_neg q]
    · show (upd s.1 a (s.1 b + M a b) j).toInt ≤ _
      rw [hu]
      split
      · rename_i e; rw [e]; omega
      · exact Int.le_refl _
    · show (upd s.1 a (s.1 b + M a b) a).toInt < _
      rw [hu, if_pos rfl]
      omega
theorem L_lp {f : Nat → lS → lS} {D : Nat → Nat → Nat → Prop} {w n : Nat} {s : lS} (hs : kLI (kCM c M) c top n s.1) : ∀ m, n + w * m ≤ 500 → (∀ i, i < m → ∀ (s : lS) n, n < 500 → kLI (kCM c M) c top n s.1 → kLI (kCM c M) c top (n + w) (f i s).1 ∧ LTr c M (D i) s (f i s)) → 1 ≤ w → kLI (kCM c M) c top (n + w * m) (lp f m s).1 ∧ LTr c M (fun a b => ∃ i, i < m ∧ D i a b) s (lp f m s)
  | 0, _, _, _ => ⟨hs, LTr_weak (LTr_refl c M s) (fun _ _ ⟨_, q, _⟩ => absurd q (Nat.not_lt_zero _))⟩
  | m + 1, hw, h, w1 => by
    have e : n + w * (m + 1) = n + w * m + w := by rw [Nat.mul_succ, Nat.add_assoc]
    obtain ⟨r1, t1⟩ := L_lp hs m (by omega) (fun i hi => h i (by omega)) w1
    obtain ⟨r2, t2⟩ := h m (by omega) _ (n + w * m) (by omega) r1
    rw [e]
    refine ⟨r2, LTr_weak (LTr_comp t1 t2) (fun a b ⟨i, hi, q⟩ => ?_)⟩
    by_cases e : i = m
    · subst e; exact Or.inr q
    · exact Or.inl ⟨i, by omega, q⟩
theorem L_low (hc : c ≤ 12) (hM : ∀ a b, a ≤ c → b ≤ c → -1 ≤ (M a b).toInt ∧ (M a b).toInt ≤ 1000) {f : Nat → Int32} (hs : kLI (kCM c M) c top 0 f) : kLI (kCM c M) c top 200 (lLow c M f).1 ∧ LTr c M (fun a b => a ≤ c ∧ b ≤ c) (f, 0) (lLow c M f) := by
  unfold lLow
  have hin : ∀ a, a < c + 1 → ∀ (s : lS) n, n < 500 → kLI (kCM c M) c top n s.1 → kLI (kCM c M) c top (n + 13) (lp (fun b s => lStep M a b s) (c + 1) s).1 ∧ LTr c M (fun a2 b2 => a2 = a ∧ b2 ≤ c) s (lp (fun b s => lStep M a b s) (c + 1) s) := fun a ha s n hn hs => by
    have h : ∀ m, m ≤ c + 1 → kLI (kCM c M) c top (n + m) (lp (fun b s => lStep M a b s) m s).1 ∧ LTr c M (fun a2 b2 => a2 = a ∧ b2 < m) s (lp (fun b s => lStep M a b s) m s) := by
      intro m
      induction m with
      | zero => exact fun _ => ⟨hs, LTr_weak (LTr_refl c M s) (fun _ _ q => absurd q.2 (Nat.not_lt_zero _))⟩
      | succ m ih =>
        intro hm
        obtain ⟨r1, t1⟩ := ih (by omega)
        obtain ⟨r2, t2⟩ := L_step (a := a) (b := m) hM (by omega) (by omega) (by omega) r1
        refine ⟨r2, LTr_weak (LTr_comp t1 t2) (fun a2 b2 q => ?_)⟩
        by_cases e : b2 = m
        · exact Or.inr ⟨q.1, e⟩
        · exact Or.inl ⟨q.1, by omega⟩
    obtain ⟨r, t⟩ := h (c + 1) (Nat.le_refl _)
    refine ⟨⟨fun j hj => ?_, r.2⟩, LTr_weak t (fun a2 b2 q => ⟨q.1, by omega⟩)⟩
    have := r.1 j hj
    omega
  obtain ⟨r, t⟩ := L_lp (f := fun a s => lp (fun b s => lStep M a b s) (c + 1) s) (w := 13) (n := 0) (s := (f, 0)) hs (c + 1) (by omega) hin (by omega)
  refine ⟨⟨fun j hj => ?_, r.2⟩, LTr_weak t (fun a b q => ⟨a, by omega, rfl, q.2⟩)⟩
  have h5 := r.1 j hj
  exact ⟨by omega, h5.2⟩
theorem L_run (hc : c ≤ 12) (hM : ∀ a b, a ≤ c → b ≤ c → -1 ≤ (M a b).toInt ∧ (M a b).toInt ≤ 1000) : ∀ (n : Nat) (f : Nat → Int32), kLI (kCM c M) c top 0 f → f 0 = 0 → (∀ a, 1 ≤ a → a ≤ c → (f a).toInt ≤ top) → sI (iv f) c + 6 * (c : Int) < n → kFd (kCM c M) c top (lRun c M n f) ∧ ((lRun c M n f).2 = true → (lRun c M n f).1 0 = 0)
  | 0, f, hs, h0, hT, hn => by
    have l1 := sI_lo (f := iv f) c (fun a a1 a2 => by rw [iv_p a1]; have := (hs.1 a a2).1; omega)
    omega
  | n + 1, f, hs, h0, hT, hn => by
    obtain ⟨r, t⟩ := L_low hc hM hs
    have z0 : (0 : Int32).toInt = 0 := rfl
    have hle0 := t.1 0 (Nat.zero_le _)
    have hle0 : ((lLow c M f).1 0).toInt ≤ (f 0).toInt := hle0
    rw [h0, z0] at hle0
    unfold lRun
    cases ha : lAll c (lLow c M f).1 with
    | false =>
      rw [if_neg Bool.false_ne_true]
      refine ⟨⟨fun q => Bool.noConfusion q, fun _ => ?_⟩, fun q => Bool.noConfusion q⟩
      by_cases hz : (lLow c M f).1 0 = 0
      · by_cases hall : ∀ j, j < c → -6 ≤ (lLow c M f).1 (j + 1)
        · unfold lAll at ha
          rw [decide_eq_true hz, Bool.and_true, allB_iff.mpr (fun j hj => decide_eq_true (hall j hj))] at ha
          exact Bool.noConfusion ha
        · have : ∃ j, j < c ∧ ¬ -6 ≤ (lLow c M f).1 (j + 1) := Classical.byContradiction (fun q => hall (fun j hj => Classical.byContradiction (fun q2 => q ⟨j, hj, q2⟩)))
          obtain ⟨j, hj, q⟩ := this
          refine Abv_no r.2 (a := j + 1) (by omega) (Or.inl ⟨by omega, ?_⟩)
          rw [Int32.le_iff_toInt_le, show (-6 : Int32).toInt = -6 from rfl] at q
          show ((lLow c M f).1 (j + 1)).toInt < -6
          omega
      · refine Abv_no r.2 (a := 0) (by omega) (Or.inr ⟨rfl, ?_⟩)
        have : ((lLow c M f).1 0).toInt ≠ 0 := fun q => hz (Int32.toInt_inj.mp (by rw [q]; rfl))
        show ((lLow c M f).1 0).toInt < 0
        omega
    | true =>
      rw [if_pos rfl]
      unfold lAll at ha
      rw [Bool.and_eq_true] at ha
      obtain ⟨ha1, ha2⟩ := ha
      have hz := of_decide_eq_true ha2
      have hall : ∀ j, j < c → -6 ≤ ((lLow c M f).1 (j + 1)).toInt := fun j hj => by
        have := of_decide_eq_true (allB_iff.mp ha1 j hj)
        rw [Int32.le_iff_toInt_le, show (-6 : Int32).toInt = -6 from rfl] at this
        exact this
      have hB : ∀ a, a ≤ c → -6 ≤ ((lLow c M f).1 a).toInt ∧ ((lLow c M f).1 a).toInt ≤ 6 := fun a ha => by
        refine ⟨?_, (r.1 a ha).2⟩
        by_cases e : a = 0
        · rw [e, hz, z0]; omega
        · have := hall (a - 1) (by omega)
          rw [show a - 1 + 1 = a from by omega] at this
          exact this
      have hT2 : ∀ a, 1 ≤ a → a ≤ c → ((lLow c M f).1 a).toInt ≤ top := fun a a1 a2 => Int.le_trans (t.1 a a2) (hT a a1 a2)
      have eiv : ∀ a, a ≤ c → tnI (lLow c M f).1 a = iv (lLow c M f).1 a := fun a _ => by
        by_cases e : a = 0
        · rw [e, iv_0]; show ((lLow c M f).1 0).toInt = 0; rw [hz]; rfl
        · rw [iv_p (by omega)]; rfl
      by_cases ch : (lLow c M f).2 = 0
      · rw [if_pos ch]
        obtain ⟨_, q2, q3⟩ := t.2.1 ch
        refine ⟨⟨fun _ => ⟨fun a a1 a2 => hB a a2, ⟨iv_0 _, fun a a1 a2 => ?_, fun a b k hC => ?_⟩, Abv_ext r.2 eiv⟩, fun q => Bool.noConfusion q⟩, fun _ => hz⟩
        · rw [iv_p a1]; exact ⟨(hB a a2).1, hT2 a a1 a2⟩
        · obtain ⟨c1, c2, c3⟩ := hC
          have h5 := q3 a b ⟨c1, c2⟩ c1 c2
          rw [← q2 a c1, ← q2 b c2] at h5
          rw [← eiv a c1, ← eiv b c2, c3]
          exact h5
      · rw [if_neg ch]
        refine L_run hc hM n _ ⟨fun a ha => ?_, r.2⟩ hz hT2 ?_
        · have := hB a ha; omega
        · rcases t.2.2 ch with q | ⟨a, ha, q⟩
          · exact absurd rfl q
          · have a0 : 1 ≤ a := by
              by_cases e : a = 0
              · rw [e] at q
                have q : ((lLow c M f).1 0).toInt < (f 0).toInt := q
                rw [hz, h0] at q; omega
              · omega
            have := sI_lt (f := iv (lLow c M f).1) (g := iv f) c (fun a a1 a2 => by rw [iv_p a1, iv_p a1]; exact t.1 a a2) ⟨a, a0, ha, by rw [iv_p a0, iv_p a0]; exact q⟩
            omega
theorem lIni_is (hi : Int32) (f : Nat → Int32) : ∀ n, lIni n hi f 0 = 0 ∧ ∀ a, 1 ≤ a → a ≤ n → lIni n hi f a = hi
  | 0 => ⟨by show upd f 0 0 0 = 0; rw [pk_us], fun a a1 a2 => by omega⟩
  | n + 1 => by
    obtain ⟨h1, h2⟩ := lIni_is hi f n
    have e : lIni (n + 1) hi f = upd (lIni n hi f) (n + 1) hi := rfl
    rw [e]
    refine ⟨by rw [pk_un (by omega)]; exact h1, fun a a1 a2 => ?_⟩
    by_cases e : a = n + 1
    · rw [e, pk_us]
    · rw [pk_un e]; exact h2 a a1 (by omega)
theorem sol_is (hc : c ≤ 12) {X : Nat → Nat → Int32} (hM : ∀ a b, a ≤ c → b ≤ c → -1 ≤ (X (52 + a) b).toInt ∧ (X (52 + a) b).toInt ≤ 1000) {tp : Int32} (htp : tp = 6 ∨ tp = 0) : kFd (kCM c (fun a b => X (52 + a) b)) c tp.toInt (lSol c tp X) ∧ ((lSol c tp X).2 = true → (lSol c tp X).1 0 = 0) := by
  unfold lSol
  obtain ⟨h0, h1⟩ := lIni_is tp (X 21) c
  generalize lIni c tp (X 21) = f at h0 h1
  have htb : 0 ≤ tp.toInt ∧ tp.toInt ≤ 6 := by rcases htp with e | e <;> (rw [e]; decide)
  have hB : ∀ a, a ≤ c → -6 - ((0 : Nat) : Int) ≤ (f a).toInt ∧ (f a).toInt ≤ 6 := fun a ha => by
    by_cases e : a = 0
    · rw [e, h0]; decide
    · rw [h1 a (by omega) ha]; omega
  refine L_run hc hM 146 f ⟨hB, Sol_top ?_ (fun a a1 a2 => ?_)⟩ h0 (fun a a1 a2 => ?_) ?_
  · show (f 0).toInt = 0; rw [h0]; rfl
  · show (f a).toInt = _; rw [h1 a a1 a2]
  · rw [h1 a a1 a2]; exact Int.le_refl _
  · have := sI_hi (f := iv f) c (fun a a1 a2 => by rw [iv_p a1]; exact (hB a a2).2)
    omega
end CLS
