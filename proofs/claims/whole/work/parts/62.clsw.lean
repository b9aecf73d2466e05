/-! The class's least and longest, offer by offer and stage by stage. -/
/-- least and longest from u to v -/
def en (G : Nat → Nat → Int32) (u v : Nat) : Int32 × Int32 := (G (26 + u) v, G (39 + u) v)
/-- a pair as one number; dv: the delay of the last gate -/
def dP (dv : Int) (e : Int32 × Int32) : Option Int := if e.1 = -1 then none else some (100000000 * e.1.toInt - (e.2.toInt - dv))
def o2 (e o : Int32 × Int32) : Int32 × Int32 := if e.1 = -1 then o else if o.1 < e.1 then o else if ¬ o.1 = e.1 then e else if o.2 ≤ e.2 then e else o
def bP (dv M : Int) (e : Int32 × Int32) : Prop := e.1 = -1 ∨ (0 ≤ e.1.toInt ∧ e.1.toInt ≤ M ∧ 0 ≤ e.2.toInt - dv ∧ e.2.toInt - dv ≤ 50 * M)
theorem m1_toInt {x : Int32} (h : 0 ≤ x.toInt) : ¬ x = -1 := fun e => by rw [e] at h; exact absurd h (by decide)
theorem o2_opt {dv M : Int} (hM : 50 * M < 100000000) {e o : Int32 × Int32} (he : bP dv M e) (ho : bP dv M o) (hn : ¬ o.1 = -1) : dP dv (o2 e o) = oMn (dP dv e) (dP dv o) ∧ bP dv M (o2 e o) := by
  have ho2 := ho.resolve_left hn
  have eo : dP dv o = some (100000000 * o.1.toInt - (o.2.toInt - dv)) := if_neg hn
  unfold o2
  by_cases q0 : e.1 = -1
  · rw [if_pos q0, eo, show dP dv e = none from if_pos q0]
    exact ⟨rfl, ho⟩
  · have he2 := he.resolve_left q0
    have ee : dP dv e = some (100000000 * e.1.toInt - (e.2.toInt - dv)) := if_neg q0
    rw [if_neg q0]
    have hmn : oMn (dP dv e) (dP dv o) = if 100000000 * o.1.toInt - (o.2.toInt - dv) < 100000000 * e.1.toInt - (e.2.toInt - dv) then dP dv o else dP dv e := by
      rw [ee, eo]; rfl
    rw [hmn]
    by_cases q1 : o.1 < e.1
    · rw [if_pos q1, if_pos (by rw [Int32.lt_iff_toInt_lt] at q1; omega)]
      exact ⟨rfl, ho⟩
    · rw [if_neg q1]
      rw [Int32.lt_iff_toInt_lt] at q1
      by_cases q2 : o.1 = e.1
      · rw [if_neg (not_not_intro q2)]
        by_cases q3 : o.2 ≤ e.2
        · rw [if_pos q3, if_neg (by rw [Int32.le_iff_toInt_le] at q3; rw [q2]; omega)]
          exact ⟨rfl, he⟩
        · rw [if_neg q3, if_pos (by rw [Int32.le_iff_toInt_le] at q3; rw [q2]; omega)]
          exact ⟨rfl, ho⟩
      · have q4 : ¬ o.1.toInt = e.1.toInt := fun x => q2 (Int32.toInt_inj.mp x)
        rw [if_pos q2, if_neg (by omega)]
        exact ⟨rfl, he⟩
/-- an offer changes one entry -/
theorem hOffer_en {G : Nat → Nat → Int32} {u v : Nat} {r t : Int32} (hu : u < 13) {a b : Nat} (ha : a < 13) : en (hOffer G u v r t) a b = if a = u ∧ b = v then o2 (en G u v) (r, t) else en G a b := by
  have hput : en (hPut G u v r t) a b = if a = u ∧ b = v then (r, t) else en G a b := by
    unfold en hPut
    by_cases e : a = u
    · subst e
      rw [upI_self, upI_ne _ _ (by omega), upI_self]
      by_cases e2 : b = v
      · subst e2; rw [if_pos ⟨rfl, rfl⟩, pk_us, pk_us]
      · rw [if_neg (fun q => e2 q.2), pk_un e2, pk_un e2]
    · rw [if_neg (fun q => e q.1), upI_ne _ _ (by omega), upI_ne _ _ (by omega), upI_ne _ _ (by omega), upI_ne _ _ (by omega)]
  have hsame : en G a b = if a = u ∧ b = v then en G u v else en G a b := by
    split
    · rename_i h; rw [h.1, h.2]
    · rfl
  unfold hOffer o2
  by_cases q0 : G (26 + u) v = -1
  · rw [if_pos q0, if_pos (show (en G u v).1 = -1 from q0)]; exact hput
  · rw [if_neg q0, if_neg (show ¬ (en G u v).1 = -1 from q0)]
    by_cases q1 : r < G (26 + u) v
    · rw [if_pos q1, if_pos (show ((r, t) : Int32 × Int32).1 < (en G u v).1 from q1)]; exact hput
    · rw [if_neg q1, if_neg (show ¬ ((r, t) : Int32 × Int32).1 < (en G u v).1 from q1)]
      by_cases q2 : r = G (26 + u) v
      · rw [if_neg (not_not_intro q2), if_neg (not_not_intro (show ((r, t) : Int32 × Int32).1 = (en G u v).1 from q2))]
        by_cases q3 : t ≤ G (39 + u) v
        · rw [if_pos q3, if_pos (show ((r, t) : Int32 × Int32).2 ≤ (en G u v).2 from q3)]; exact hsame
        · rw [if_neg q3, if_neg (show ¬ ((r, t) : Int32 × Int32).2 ≤ (en G u v).2 from q3)]; exact hput
      · rw [if_pos q2, if_pos (show ¬ ((r, t) : Int32 × Int32).1 = (en G u v).1 from q2)]; exact hsame
theorem o2_self (e : Int32 × Int32) (h : ¬ e.1 = -1) : o2 e e = e := by
  unfold o2
  rw [if_neg h, if_neg (by rw [Int32.lt_iff_toInt_lt]; omega), if_neg (not_not_intro rfl), if_pos (by rw [Int32.le_iff_toInt_le]; omega)]
