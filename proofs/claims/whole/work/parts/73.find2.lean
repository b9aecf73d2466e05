/-! The reference's find: it stops, with the greatest labelling or because there is none. -/
theorem add_t {x y : Int32} (h1 : -2147483648 ≤ x.toInt + y.toInt) (h2 : x.toInt + y.toInt < 2147483648) : (x + y).toInt = x.toInt + y.toInt := by
  rw [Int32.toInt_add, Int.bmod_eq_of_le] <;> omega
theorem sub_t {x y : Int32} (h1 : -2147483648 ≤ x.toInt - y.toInt) (h2 : x.toInt - y.toInt < 2147483648) : (x - y).toInt = x.toInt - y.toInt := by
  rw [Int32.toInt_sub, Int.bmod_eq_of_le] <;> omega
def cSr (J : Nat → Nat → Int32) (w : Nat) : Nat := (bh (J 3) w).toNatClampNeg
def Cw (J : Nat → Nat → Int32) (w a b : Nat) (x : Int) : Prop := ¬ J 3 w = 0 ∧ ((a = cSr J w ∧ b = gbf w ∧ x = (J 4 w).toInt) ∨ (a = gbf w ∧ b = cSr J w ∧ x = 20 - (J 4 w).toInt))
def kCt (J : Nat → Nat → Int32) (k : Int32) (u v a b : Nat) (x : Int) : Prop := rTi (J 12) (J 2) k (u + 1) (v + 1) = true ∧ a = u + 1 ∧ b = v + 1 ∧ x = (rWt (J 12) (u + 1) (v + 1)).toInt - 1
/-- what a labelling must keep to -/
def Cn (c : Nat) (J : Nat → Nat → Int32) (k : Int32) (a b : Nat) (x : Int) : Prop := (∃ w, w < 27 ∧ Cw J w a b x) ∨ ∃ u, u < c ∧ ∃ v, v < c ∧ kCt J k u v a b x
/-- a wire that is there -/
theorem wir {c : Nat} {I : Nat → Nat → Int32} {L : Nat → Nat → Int64} {J : Nat → Nat → Int32} (R : Rel c I L J) {w : Nat} (hw : w < 27) (h : ¬ J 3 w = 0) : cSr J w ≤ c ∧ gbf w ≤ c ∧ ((J 3 w ≤ 0 ∧ cSr J w = 0) ∨ (J 3 w = nI (cSr J w) ∧ 1 ≤ cSr J w)) ∧ ∃ m, m ≤ 20 ∧ J 4 w = nI m := by
  have hc := R.hc
  obtain ⟨g, hg, e1, e2, e3⟩ := Rel_bh R hw
  have eb : bh (J 3) w = nI g := by
    unfold bh at e1 ⊢
    rw [R.fr w hw] at e1
    exact e1
  have es : cSr J w = g := by unfold cSr; rw [eb, nI_clamp (by omega)]
  rw [es]
  refine ⟨hg, ?_, ?_, R.mnb w hw⟩
  · by_cases h24 : w < 24
    · by_cases q : c < gbf w
      · exact absurd (R.frs w h24 q) h
      · omega
    · have : gbf w = 0 := by unfold gbf; rw [if_pos (by omega)]
      omega
  · by_cases g0 : g = 0
    · exact Or.inl ⟨e2.mp g0, g0⟩
    · exact Or.inr ⟨e3 (by omega), by omega⟩
theorem rLo_nat {f : Nat → Int32} {g : Nat} (h : g ≤ 12) : (rLo f (nI g)).toInt = iv f g := by
  unfold rLo
  by_cases e : g = 0
  · subst e; rw [if_pos (by decide), iv_0]; rfl
  · rw [if_neg (nI_nle (by omega) (by omega)), nI_clamp (by omega), iv_p (by omega)]
theorem rLo_src {f : Nat → Int32} {x : Int32} {g : Nat} (hg : g ≤ 12) (h : (x ≤ 0 ∧ g = 0) ∨ (x = nI g ∧ 1 ≤ g)) : (rLo f x).toInt = iv f g := by
  rcases h with ⟨h1, rfl⟩ | ⟨rfl, _⟩
  · unfold rLo; rw [if_pos h1, iv_0]; rfl
  · exact rLo_nat hg
/-- weights that tight pairs have -/
def tW (c : Nat) (J : Nat → Nat → Int32) (k : Int32) : Prop := ∀ u v, u < c → v < c → rTi (J 12) (J 2) k (u + 1) (v + 1) = true → ∃ r, r ≤ 240 ∧ rWt (J 12) (u + 1) (v + 1) = nI r
section FND
variable {c : Nat} {I : Nat → Nat → Int32} {L : Nat → Nat → Int64} {J : Nat → Nat → Int32} {k : Int32} {top : Int}
theorem R_A1 (R : Rel c I L J) {i : Nat} (hi : i < 27) {s : rLS} (hs : RI (Cn c J k) c top s) : RI (Cn c J k) c top (rA1 J i s) ∧ RT c (Cw J i) s (rA1 J i s) := by
  have hc := R.hc
  unfold rA1
  by_cases h0 : J 3 i = 0
  · rw [if_pos h0]
    exact ⟨hs, RT_weak (RT_refl c s) (fun _ _ _ q => q.1 h0)⟩
  · rw [if_neg h0]
    obtain ⟨s1, s2, s3, m, hm, em⟩ := wir R hi h0
    have em2 : (J 4 i).toInt = m := by rw [em, nI_toInt (by omega)]
    have hg : (nI (gbf i) ≤ 0 ∧ gbf i = 0) ∨ (nI (gbf i) = nI (gbf i) ∧ 1 ≤ gbf i) := by
      by_cases e : gbf i = 0
      · exact Or.inl ⟨by rw [e]; decide, e⟩
      · exact Or.inr ⟨rfl, by omega⟩
    obtain ⟨r1, t1⟩ := R_al (C := Cn c J k) (top := top) (x := J 3 i) (m := fun f => J 4 i + rLo f (nI (gbf i))) (a := cSr J i) (b := gbf i) (k := (J 4 i).toInt) s3 s1 s2 hc (Or.inl ⟨i, hi, h0, Or.inl ⟨rfl, rfl, rfl⟩⟩) (fun f hf => by
      have hb := iv_b hf s2
      have e1 := rLo_nat (f := f) (g := gbf i) (by omega)
      show (J 4 i + rLo f (nI (gbf i))).toInt = _
      rw [add_t (by omega) (by omega), e1]; omega) hs
    obtain ⟨r2, t2⟩ := R_al (C := Cn c J k) (top := top) (x := nI (gbf i)) (m := fun f => 20 - J 4 i + rLo f (J 3 i)) (a := gbf i) (b := cSr J i) (k := 20 - (J 4 i).toInt) hg s2 s1 hc (Or.inl ⟨i, hi, h0, Or.inr ⟨rfl, rfl, rfl⟩⟩) (fun f hf => by
      have hb := iv_b hf s1
      have e1 := rLo_src (f := f) (by omega) s3
      have e2 : (20 - J 4 i).toInt = 20 - (J 4 i).toInt := sub_t (by rw [show (20 : Int32).toInt = 20 from rfl]; omega) (by rw [show (20 : Int32).toInt = 20 from rfl]; omega)
      show (20 - J 4 i + rLo f (J 3 i)).toInt = _
      rw [add_t (by omega) (by omega), e1, e2]; omega) r1
    refine ⟨r2, RT_weak (RT_comp t1 t2) (fun a b x q => ?_)⟩
    rcases q.2 with q | q
    · exact Or.inl q
    · exact Or.inr q
theorem R_A2 (hc : c ≤ 12) (hW : tW c J k) {u v : Nat} (hu : u < c) (hv : v < c) {s : rLS} (hs : RI (Cn c J k) c top s) : RI (Cn c J k) c top (rA2 (J 12) (J 2) k u v s) ∧ RT c (kCt J k u v) s (rA2 (J 12) (J 2) k u v s) := by
  unfold rA2
  cases h0 : rTi (J 12) (J 2) k (u + 1) (v + 1) with
  | false =>
    rw [if_neg Bool.false_ne_true]
    exact ⟨hs, RT_weak (RT_refl c s) (fun _ _ _ q => absurd (h0.symm.trans q.1) Bool.false_ne_true)⟩
  | true =>
    rw [if_pos rfl]
    obtain ⟨r, hr, er⟩ := hW u v hu hv h0
    have er2 : (rWt (J 12) (u + 1) (v + 1)).toInt = r := by rw [er, nI_toInt (by omega)]
    obtain ⟨r1, t1⟩ := R_al (C := Cn c J k) (top := top) (x := nI (u + 1)) (m := fun f => rWt (J 12) (u + 1) (v + 1) + f (v + 1) - 1) (a := u + 1) (b := v + 1) (k := (rWt (J 12) (u + 1) (v + 1)).toInt - 1) (Or.inr ⟨rfl, by omega⟩) (by omega) (by omega) hc (Or.inr ⟨u, hu, v, hv, h0, rfl, rfl, rfl⟩) (fun f hf => by
      have hb := iv_b hf (a := v + 1) (by omega)
      have e1 := iv_p (f := f) (a := v + 1) (by omega)
      have e3 : (1 : Int32).toInt = 1 := rfl
      have e2 : (rWt (J 12) (u + 1) (v + 1) + f (v + 1)).toInt = (rWt (J 12) (u + 1) (v + 1)).toInt + (f (v + 1)).toInt := add_t (by omega) (by omega)
      show (rWt (J 12) (u + 1) (v + 1) + f (v + 1) - 1).toInt = _
      rw [sub_t (by omega) (by omega), e2]; omega) hs
    exact ⟨r1, RT_weak t1 (fun a b x q => q.2)⟩
theorem R_all (R : Rel c I L J) (hW : tW c J k) {f : Nat → Int32} (hs : RI (Cn c J k) c top (f, true)) : RI (Cn c J k) c top (rLAll c J k f) ∧ RT c (Cn c J k) (f, true) (rLAll c J k f) := by
  have hc := R.hc
  unfold rLAll
  obtain ⟨r1, t1⟩ := R_lp hs (f := rA1 J) (D := fun i => Cw J i) 27 (fun i hi s hs => R_A1 R hi hs)
  obtain ⟨r2, t2⟩ := R_lp r1 (f := rA2u c (J 12) (J 2) k) (D := fun u a b x => ∃ v, v < c ∧ kCt J k u v a b x) c (fun u hu s hs => by
    unfold rA2u
    exact R_lp hs (f := rA2 (J 12) (J 2) k u) (D := fun v => kCt J k u v) c (fun v hv s hs => R_A2 hc hW hu hv hs))
  exact ⟨r2, RT_comp t1 t2⟩
theorem rSum_is {f : Nat → Int32} (hc : c ≤ 12) (h : lB c f) : ∀ n, n ≤ c → (lp (rSm f) n 0).toInt = sI (iv f) n
  | 0, _ => rfl
  | n + 1, hn => by
    have ih := rSum_is hc h n (by omega)
    have l1 := sI_lo (f := iv f) n (fun a a1 a2 => (iv_b h (by omega)).1)
    have l2 := sI_hi (f := iv f) n (fun a a1 a2 => (iv_b h (by omega)).2)
    have l3 := iv_b h (a := n + 1) hn
    have l4 := iv_p (f := f) (a := n + 1) (by omega)
    show (lp (rSm f) n 0 + f (n + 1)).toInt = sI (iv f) n + iv f (n + 1)
    rw [add_t (by omega) (by omega), ih, l4]
/-- what find finds -/
def kFd (C : Nat → Nat → Int → Prop) (c : Nat) (top : Int) (q : (Nat → Int32) × Bool) : Prop := (q.2 = true → lB c q.1 ∧ Sol C c top (iv q.1) ∧ Abv C c top (iv q.1)) ∧ (q.2 = false → ∀ g, ¬ Sol C c top g)
theorem R_step (R : Rel c I L J) (hW : tW c J k) {f : Nat → Int32} {S : Int32} (hs : RI (Cn c J k) c top (f, true)) (hT : ∀ a, 1 ≤ a → a ≤ c → (f a).toInt ≤ top) (hS : sI (iv f) c ≤ S.toInt) (ok : (rLAll c J k f).2 = true) : RI (Cn c J k) c top ((rLAll c J k f).1, true) ∧ (∀ a, 1 ≤ a → a ≤ c → ((rLAll c J k f).1 a).toInt ≤ top) ∧ (rSum c (rLAll c J k f).1).toInt = sI (iv (rLAll c J k f).1) c ∧ sI (iv (rLAll c J k f).1) c ≤ sI (iv f) c ∧ (rSum c (rLAll c J k f).1 = S → Sol (Cn c J k) c top (iv (rLAll c J k f).1)) := by
  have hc := R.hc
  obtain ⟨r1, t1⟩ := R_all R hW hs
  obtain ⟨_, le1, k1⟩ := t1 ok
  obtain ⟨b1, a1⟩ := r1.1 ok
  have es : (rSum c (rLAll c J k f).1).toInt = sI (iv (rLAll c J k f).1) c := rSum_is hc b1 c (Nat.le_refl _)
  have hle : ∀ a, 1 ≤ a → a ≤ c → iv (rLAll c J k f).1 a ≤ iv f a := fun a a1 a2 => by rw [iv_p a1, iv_p a1]; exact le1 a a1 a2
  have hT2 : ∀ a, 1 ≤ a → a ≤ c → ((rLAll c J k f).1 a).toInt ≤ top := fun a a1 a2 => Int.le_trans (le1 a a1 a2) (hT a a1 a2)
  refine ⟨⟨fun _ => ⟨b1, a1⟩, fun e => Bool.noConfusion e⟩, hT2, es, sI_le c hle, fun e => ?_⟩
  have e2 := sI_eq hle (by rw [← es, e]; exact hS)
  have e3 : ∀ a, 1 ≤ a → a ≤ c → (rLAll c J k f).1 a = f a := fun a a1 a2 => by
    have := e2 a a1 a2
    rw [iv_p a1, iv_p a1] at this
    exact Int32.toInt_inj.mp this
  have e4 : ∀ a, a ≤ c → iv (rLAll c J k f).1 a = iv f a := fun a ha => by
    by_cases e0 : a = 0
    · subst e0; rw [iv_0, iv_0]
    · exact e2 a (by omega) ha
  refine ⟨iv_0 _, fun a a1 a2 => ?_, fun a b x hC => ?_⟩
  · rw [iv_p a1]; exact ⟨(b1 a a1 a2).1, hT2 a a1 a2⟩
  · have hab : a ≤ c ∧ b ≤ c := by
      rcases hC with ⟨w, hw, h0, q⟩ | ⟨u, hu, v, hv, _, q1, q2, _⟩
      · obtain ⟨s1, s2, _⟩ := wir R hw h0
        rcases q with ⟨q1, q2, _⟩ | ⟨q1, q2, _⟩ <;> subst q1 <;> subst q2 <;> exact ⟨by assumption, by assumption⟩
      · omega
    rw [e4 a hab.1, e4 b hab.2]
    exact k1 e3 a b x hC hab.1 hab.2
theorem rFs_no (m : Nat) (f : Nat → Int32) (x y : Int32) : rFs c J k m false f x y = some (f, false) := by
  cases m <;> (unfold rFs; rw [if_pos rfl])
theorem R_run (R : Rel c I L J) (hW : tW c J k) : ∀ (m : Nat) (f : Nat → Int32) (sum now : Int32), RI (Cn c J k) c top (f, true) → (∀ a, 1 ≤ a → a ≤ c → (f a).toInt ≤ top) → now.toInt = sI (iv f) c → (now = sum ∨ sI (iv f) c + 6 * (c : Int) < m) → (now = sum → Sol (Cn c J k) c top (iv f)) → ∃ q, rFs c J k m true f sum now = some q ∧ kFd (Cn c J k) c top q
  | 0, f, sum, now, hs, hT, hn, hf, hS => by
    obtain ⟨b1, a1⟩ := hs.1 rfl
    have l1 := sI_lo (f := iv f) c (fun a a1 a2 => (iv_b b1 a2).1)
    have e : now = sum := by
      rcases hf with e | e
      · exact e
      · omega
    refine ⟨(f, true), ?_, fun _ => ⟨b1, hS e, a1⟩, fun q => Bool.noConfusion q⟩
    unfold rFs
    rw [if_neg (by decide), if_pos e]
  | m + 1, f, sum, now, hs, hT, hn, hf, hS => by
    obtain ⟨b1, a1⟩ := hs.1 rfl
    unfold rFs
    rw [if_neg (by decide)]
    by_cases e : now = sum
    · rw [if_pos e]
      exact ⟨(f, true), rfl, fun _ => ⟨b1, hS e, a1⟩, fun q => Bool.noConfusion q⟩
    · rw [if_neg e]
      cases ok : (rLAll c J k f).2 with
      | false =>
        rw [rFs_no]
        exact ⟨_, rfl, fun q => Bool.noConfusion q, fun _ => (R_all R hW hs).1.2 ok⟩
      | true =>
        obtain ⟨r1, r2, r3, r4, r5⟩ := R_step R hW (S := now) hs hT (by omega) ok
        refine R_run R hW m _ now _ r1 r2 r3 ?_ r5
        by_cases e2 : rSum c (rLAll c J k f).1 = now
        · exact Or.inl e2
        · refine Or.inr ?_
          have : (rSum c (rLAll c J k f).1).toInt ≠ now.toInt := fun q => e2 (Int32.toInt_inj.mp q)
          rcases hf with e3 | e3
          · exact absurd e3 e
          · omega
theorem rF1_is (top : Int32) (f : Nat → Int32) : ∀ n a, 1 ≤ a → a ≤ n → lp (rF1 top) n f a = top
  | 0, a, a1, a2 => by omega
  | n + 1, a, a1, a2 => by
    show upd (lp (rF1 top) n f) (n + 1) top a = top
    by_cases e : a = n + 1
    · rw [e, pk_us]
    · rw [pk_un e]; exact rF1_is top f n a a1 (by omega)
/-- find stops and finds what there is -/
theorem find_is (R : Rel c I L J) (hW : tW c J k) {tp : Int32} (htp : tp = 6 ∨ tp = 0) : ∃ q, rFind c J k tp = some q ∧ kFd (Cn c J k) c tp.toInt q := by
  have hc := R.hc
  unfold rFind
  have h0 := rF1_is tp (J 10) c
  generalize lp (rF1 tp) c (J 10) = f at h0
  have h6 : (6 : Int32).toInt = 6 := rfl
  have h00 : (0 : Int32).toInt = 0 := rfl
  have hB : lB c f := fun a a1 a2 => by rw [h0 a a1 a2]; rcases htp with e | e <;> (rw [e]; decide)
  have hs : RI (Cn c J k) c tp.toInt (f, true) := ⟨fun _ => ⟨hB, Sol_top (iv_0 _) (fun a a1 a2 => by rw [iv_p a1]; show (f a).toInt = _; rw [h0 a a1 a2])⟩, fun e => Bool.noConfusion e⟩
  have hT : ∀ a, 1 ≤ a → a ≤ c → (f a).toInt ≤ tp.toInt := fun a a1 a2 => by rw [h0 a a1 a2]; exact Int.le_refl _
  have hS : sI (iv f) c ≤ (12 * tp).toInt := by
    rcases htp with e | e
    · have := sI_hi (f := iv f) c (fun a a1 a2 => (iv_b hB a2).2)
      rw [e, show (12 * (6 : Int32)).toInt = 72 from rfl]
      omega
    · have := sI_np (f := iv f) c (fun a a1 a2 => by rw [iv_p a1, h0 a a1 a2, e]; exact Int.le_refl _)
      rw [e, show (12 * (0 : Int32)).toInt = 0 from rfl]
      exact this
  have hn : ¬ 12 * tp = 1000 := by rcases htp with e | e <;> (rw [e]; decide)
  have hu : rFs c J k 200 true f 1000 (12 * tp) = rFs c J k 199 (rLAll c J k f).2 (rLAll c J k f).1 (12 * tp) (rSum c (rLAll c J k f).1) := by
    show rFs c J k (199 + 1) true f 1000 (12 * tp) = _
    rw [rFs]
    rw [if_neg (by decide), if_neg hn]
  rw [hu]
  cases ok : (rLAll c J k f).2 with
  | false =>
    rw [rFs_no]
    exact ⟨_, rfl, fun q => Bool.noConfusion q, fun _ => (R_all R hW hs).1.2 ok⟩
  | true =>
    obtain ⟨r1, r2, r3, r4, r5⟩ := R_step R hW (S := 12 * tp) hs hT hS ok
    refine R_run R hW 199 _ _ _ r1 r2 r3 (Or.inr ?_) r5
    have := sI_hi (f := iv f) c (fun a a1 a2 => (iv_b hB a2).2)
    omega
end FND
