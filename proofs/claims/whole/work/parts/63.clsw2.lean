/-! The class's least and longest: one stage. -/
def c3 (dm : Int32) (e a b : Int32 × Int32) : Int32 × Int32 := if a.1 = -1 then e else if b.1 = -1 then e else o2 e (a.1 + b.1, a.2 + b.2 - dm)
theorem c3_l (dm : Int32) (e : Int32 × Int32) : c3 dm e e (0, dm) = e := by
  unfold c3
  by_cases h : e.1 = -1
  · rw [if_pos h]
  · rw [if_neg h, if_neg (show ¬ (0 : Int32) = -1 by decide)]
    show o2 e (e.1 + 0, e.2 + dm - dm) = e
    rw [Int32.add_zero, Int32.add_sub_cancel]
    exact o2_self e h
theorem c3_r (dm : Int32) (e : Int32 × Int32) : c3 dm e (0, dm) e = e := by
  unfold c3
  rw [if_neg (show ¬ (0 : Int32) = -1 by decide)]
  by_cases h : e.1 = -1
  · rw [if_pos h]
  · rw [if_neg h]
    show o2 e (0 + e.1, dm + e.2 - dm) = e
    rw [Int32.zero_add, Int32.add_comm dm, Int32.add_sub_cancel]
    exact o2_self e h
def mixE (c u v : Nat) (h : Nat → Nat → Int32 × Int32) (G0 G : Nat → Nat → Int32) : Prop := G 11 = G0 11 ∧ ∀ a b, a < c → b < c → en G (a + 1) (b + 1) = if a < u ∨ (a = u ∧ b < v) then h a b else en G0 (a + 1) (b + 1)
theorem hM3_is {c m : Nat} (hc : c ≤ 12) (hm : m < c) {G0 : Nat → Nat → Int32} (h0 : en G0 (m + 1) (m + 1) = (0, G0 11 (m + 1))) : hM3 c (m + 1) G0 11 = G0 11 ∧ ∀ a b, a < c → b < c → en (hM3 c (m + 1) G0) (a + 1) (b + 1) = c3 (G0 11 (m + 1)) (en G0 (a + 1) (b + 1)) (en G0 (a + 1) (m + 1)) (en G0 (m + 1) (b + 1)) := by
  refine ⟨hM3_low (by decide), ?_⟩
  let h : Nat → Nat → Int32 × Int32 := fun a b => c3 (G0 11 (m + 1)) (en G0 (a + 1) (b + 1)) (en G0 (a + 1) (m + 1)) (en G0 (m + 1) (b + 1))
  have hcol : ∀ u, h u m = en G0 (u + 1) (m + 1) := fun u => by
    show c3 _ _ _ (en G0 (m + 1) (m + 1)) = _
    rw [h0, c3_l]
  have hrow : ∀ v, h m v = en G0 (m + 1) (v + 1) := fun v => by
    show c3 _ _ (en G0 (m + 1) (m + 1)) _ = _
    rw [h0, c3_r]
  have inner : ∀ u G, u < c → ¬ (en G0 (u + 1) (m + 1)).1 = -1 → mixE c u 0 h G0 G → ∀ v, v ≤ c → mixE c u v h G0 (lp (fun i I => hOv I (u + 1) (m + 1) (i + 1)) v G) := by
    intro u G hu hg hG v
    induction v with
    | zero => intro _; exact hG
    | succ v ih =>
      intro hv
      have hmx := ih (by omega)
      show mixE c u (v + 1) h G0 (hOv (lp (fun i I => hOv I (u + 1) (m + 1) (i + 1)) v G) (u + 1) (m + 1) (v + 1))
      generalize lp (fun i I => hOv I (u + 1) (m + 1) (i + 1)) v G = X at hmx ⊢
      obtain ⟨x11, hX⟩ := hmx
      have e1 : en X (u + 1) (m + 1) = en G0 (u + 1) (m + 1) := by
        rw [hX u m hu hm]
        split
        · exact hcol u
        · rfl
      have e2 : en X (m + 1) (v + 1) = en G0 (m + 1) (v + 1) := by
        rw [hX m v hm (by omega)]
        split
        · exact hrow v
        · rfl
      have e3 : en X (u + 1) (v + 1) = en G0 (u + 1) (v + 1) := by
        rw [hX u v hu (by omega), if_neg (by omega)]
      have hval : ∀ a b, a < c → b < c → en (hOv X (u + 1) (m + 1) (v + 1)) (a + 1) (b + 1) = if a = u ∧ b = v then h u v else en X (a + 1) (b + 1) := by
        intro a b ha hb
        have hh : h u v = if (en G0 (m + 1) (v + 1)).1 = -1 then en G0 (u + 1) (v + 1) else o2 (en G0 (u + 1) (v + 1)) ((en G0 (u + 1) (m + 1)).1 + (en G0 (m + 1) (v + 1)).1, (en G0 (u + 1) (m + 1)).2 + (en G0 (m + 1) (v + 1)).2 - G0 11 (m + 1)) := by
          show c3 _ _ _ _ = _
          unfold c3
          rw [if_neg hg]
        unfold hOv
        by_cases q : X (26 + (m + 1)) (v + 1) = -1
        · rw [if_pos q]
          have q2 : (en G0 (m + 1) (v + 1)).1 = -1 := by rw [← e2]; exact q
          rw [hh, if_pos q2]
          split
          · rename_i e; rw [e.1, e.2, e3]
          · rfl
        · rw [if_neg q, hOffer_en (by omega) (by omega)]
          have q2 : ¬ (en G0 (m + 1) (v + 1)).1 = -1 := by rw [← e2]; exact q
          rw [hh, if_neg q2, ← e1, ← e2, ← e3, ← x11]
          by_cases e : a = u ∧ b = v
          · rw [if_pos e, if_pos (show a + 1 = u + 1 ∧ b + 1 = v + 1 by omega)]
            rfl
          · rw [if_neg e, if_neg (show ¬ (a + 1 = u + 1 ∧ b + 1 = v + 1) by omega)]
      refine ⟨?_, fun a b ha hb => ?_⟩
      · rw [← x11]
        unfold hOv
        split
        · rfl
        · exact hOffer_low (by decide)
      · rw [hval a b ha hb]
        by_cases e : a = u ∧ b = v
        · rw [if_pos e, if_pos (show a < u ∨ (a = u ∧ b < v + 1) by omega), e.1, e.2]
        · rw [if_neg e, hX a b ha hb]
          by_cases e2 : a < u ∨ (a = u ∧ b < v)
          · rw [if_pos e2, if_pos (show a < u ∨ (a = u ∧ b < v + 1) by omega)]
          · rw [if_neg e2, if_neg (show ¬ (a < u ∨ (a = u ∧ b < v + 1)) by omega)]
  have outer : ∀ u, u ≤ c → mixE c u 0 h G0 (lp (fun i G => hOver c (i + 1) (m + 1) G) u G0) := by
    intro u
    induction u with
    | zero => intro _; exact ⟨rfl, fun a b ha hb => by rw [if_neg (show ¬ (a < 0 ∨ (a = 0 ∧ b < 0)) by omega)]; rfl⟩
    | succ u ih =>
      intro hu
      have hm2 := ih (by omega)
      show mixE c (u + 1) 0 h G0 (hOver c (u + 1) (m + 1) (lp (fun i G => hOver c (i + 1) (m + 1) G) u G0))
      generalize lp (fun i G => hOver c (i + 1) (m + 1) G) u G0 = X at hm2 ⊢
      have e1 : en X (u + 1) (m + 1) = en G0 (u + 1) (m + 1) := by
        rw [hm2.2 u m (by omega) hm, if_neg (by omega)]
      unfold hOver
      by_cases q : X (26 + (u + 1)) (m + 1) = -1
      · rw [if_neg (not_not_intro q)]
        have q2 : (en G0 (u + 1) (m + 1)).1 = -1 := by rw [← e1]; exact q
        refine ⟨hm2.1, fun a b ha hb => ?_⟩
        rw [hm2.2 a b ha hb]
        by_cases e : a = u
        · subst e
          rw [if_neg (by omega), if_pos (show a < a + 1 ∨ (a = a + 1 ∧ b < 0) by omega)]
          show _ = c3 _ _ _ _
          unfold c3
          rw [if_pos q2]
        · by_cases e2 : a < u ∨ (a = u ∧ b < 0)
          · rw [if_pos e2, if_pos (show a < u + 1 ∨ (a = u + 1 ∧ b < 0) by omega)]
          · rw [if_neg e2, if_neg (show ¬ (a < u + 1 ∨ (a = u + 1 ∧ b < 0)) by omega)]
      · rw [if_pos q]
        have q2 : ¬ (en G0 (u + 1) (m + 1)).1 = -1 := by rw [← e1]; exact q
        obtain ⟨i1, i2⟩ := inner u X (by omega) q2 hm2 c (Nat.le_refl _)
        refine ⟨i1, fun a b ha hb => ?_⟩
        rw [i2 a b ha hb]
        by_cases e2 : a < u ∨ (a = u ∧ b < c)
        · rw [if_pos e2, if_pos (show a < u + 1 ∨ (a = u + 1 ∧ b < 0) by omega)]
        · rw [if_neg e2, if_neg (show ¬ (a < u + 1 ∨ (a = u + 1 ∧ b < 0)) by omega)]
  intro a b ha hb
  have := (outer c (Nat.le_refl _)).2 a b ha hb
  rw [if_pos (Or.inl ha)] at this
  exact this
