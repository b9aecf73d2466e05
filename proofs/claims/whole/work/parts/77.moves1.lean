/-! Registers of a wire in the class's long and in the reference's row, while moves are made. -/
def wR2 (w m : Nat) (v : Int64) (T : Nat → Int32) : Prop := ∀ k, k < m → bRd v (nI k) = T (40 * w + k) ∧ ∃ n, n ≤ 2 ∧ T (40 * w + k) = nI n
def BR (b : bS) (s : tS) : Prop := ∀ w, w < 27 → ∃ m, m ≤ 31 ∧ b.1 w = nI m ∧ s.2 w = nI m ∧ wR2 w m (b.2 w) s.1
theorem BR_at {b : bS} {s : tS} (h : BR b s) {w m : Nat} (hw : w < 27) (hm : s.2 w = nI m) (hm2 : m ≤ 31) : b.1 w = nI m ∧ wR2 w m (b.2 w) s.1 := by
  obtain ⟨m2, h1, h2, h3, h4⟩ := h w hw
  have e : m2 = m := (nI_eq (by omega) (by omega)).mp (h3.symm.trans hm)
  subst e
  exact ⟨h2, h4⟩
theorem BR_tk {b : bS} {s : tS} (h : BR b s) {w m : Nat} (hw : w < 27) (hm : s.2 w = nI (m + 1)) (hm2 : m + 1 ≤ 31) : BR (bTk b w) (rPul w s) ∧ (∀ j, (rPul w s).2 j = if j = w then nI m else s.2 j) ∧ bRd (b.2 w) 0 = s.1 (40 * w) ∧ ∃ n, n ≤ 2 ∧ s.1 (40 * w) = nI n := by
  obtain ⟨h1, h2⟩ := BR_at h hw hm hm2
  have hM : ∀ j, (rPul w s).2 j = if j = w then nI m else s.2 j := fun j => by
    show upd s.2 w (s.2 w - 1) j = _
    by_cases e : j = w
    · rw [e, pk_us, if_pos rfl, hm, nI_pred]
    · rw [pk_un e, if_neg e]
  have hT : ∀ j, (rPul w s).1 j = if 40 * w ≤ j ∧ j < 40 * w + m then s.1 (j + 1) else s.1 j := fun j => by
    show shD w ((s.2 w).toNatClampNeg - 1) s.1 j = _
    rw [hm, nI_clamp (by omega), show m + 1 - 1 = m from by omega]
    rfl
  refine ⟨fun j hj => ?_, hM, h2 0 (by omega)⟩
  by_cases e : j = w
  · subst e
    refine ⟨m, by omega, ?_, by rw [hM, if_pos rfl], fun k hk => ?_⟩
    · show upd b.1 j (b.1 j - 1) j = nI m
      rw [pk_us, h1, nI_pred]
    · have := h2 (k + 1) (by omega)
      rw [hT, if_pos ⟨by omega, by omega⟩]
      show bRd (vp_updL b.2 j (bSh (b.2 j)) j) (nI k) = _ ∧ _
      rw [show vp_updL b.2 j (bSh (b.2 j)) j = bSh (b.2 j) from if_pos rfl, rd_sh _ (by omega)]
      exact this
  · obtain ⟨m2, q1, q2, q3, q4⟩ := h j hj
    refine ⟨m2, q1, ?_, by rw [hM, if_neg e]; exact q3, fun k hk => ?_⟩
    · show upd b.1 w (b.1 w - 1) j = nI m2
      rw [pk_un e]; exact q2
    · rw [hT, if_neg (by omega)]
      show bRd (vp_updL b.2 w (bSh (b.2 w)) j) (nI k) = _ ∧ _
      rw [show vp_updL b.2 w (bSh (b.2 w)) j = b.2 j from if_neg e]
      exact q4 k hk
theorem BR_ts {b : bS} {s : tS} (h : BR b s) {w m : Nat} (hw : w < 27) (hm : s.2 w = nI (m + 1)) (hm2 : m + 1 ≤ 31) : BR (bTs b w) (s.1, upd s.2 w (s.2 w - 1)) ∧ (∀ j, upd s.2 w (s.2 w - 1) j = if j = w then nI m else s.2 j) ∧ bRd (b.2 w) (b.1 w - 1) = s.1 (40 * w + m) ∧ ∃ n, n ≤ 2 ∧ s.1 (40 * w + m) = nI n := by
  obtain ⟨h1, h2⟩ := BR_at h hw hm hm2
  have hM : ∀ j, upd s.2 w (s.2 w - 1) j = if j = w then nI m else s.2 j := fun j => by
    by_cases e : j = w
    · rw [e, pk_us, if_pos rfl, hm, nI_pred]
    · rw [pk_un e, if_neg e]
  refine ⟨fun j hj => ?_, hM, by rw [h1, nI_pred]; exact h2 m (by omega)⟩
  by_cases e : j = w
  · subst e
    refine ⟨m, by omega, ?_, by show upd s.2 j (s.2 j - 1) j = _; rw [hM, if_pos rfl], fun k hk => h2 k (by omega)⟩
    show upd b.1 j (b.1 j - 1) j = nI m
    rw [pk_us, h1, nI_pred]
  · obtain ⟨m2, q1, q2, q3, q4⟩ := h j hj
    refine ⟨m2, q1, ?_, by show upd s.2 w (s.2 w - 1) j = _; rw [hM, if_neg e]; exact q3, q4⟩
    show upd b.1 w (b.1 w - 1) j = nI m2
    rw [pk_un e]; exact q2
theorem BR_pu {b : bS} {s : tS} (h : BR b s) {w m n : Nat} (hw : w < 27) (hm : s.2 w = nI m) (hm2 : m < 31) (hn : n ≤ 2) : BR (bPu b w (nI n)) (upd s.1 (40 * w + (s.2 w).toNatClampNeg) (nI n), upd s.2 w (s.2 w + 1)) ∧ (∀ j, upd s.2 w (s.2 w + 1) j = if j = w then nI (m + 1) else s.2 j) := by
  obtain ⟨h1, h2⟩ := BR_at h hw hm (by omega)
  have hM : ∀ j, upd s.2 w (s.2 w + 1) j = if j = w then nI (m + 1) else s.2 j := fun j => by
    by_cases e : j = w
    · rw [e, pk_us, if_pos rfl, hm, ← nI_succ]
    · rw [pk_un e, if_neg e]
  rw [show (s.2 w).toNatClampNeg = m from by rw [hm, nI_clamp (by omega)]]
  refine ⟨fun j hj => ?_, hM⟩
  by_cases e : j = w
  · subst e
    refine ⟨m + 1, by omega, ?_, by show upd s.2 j (s.2 j + 1) j = _; rw [hM, if_pos rfl], fun k hk => ?_⟩
    · show upd b.1 j (b.1 j + 1) j = nI (m + 1)
      rw [pk_us, h1, ← nI_succ]
    · show bRd (vp_updL b.2 j (bWr (b.2 j) (b.1 j) (nI n)) j) (nI k) = upd s.1 (40 * j + m) (nI n) (40 * j + k) ∧ ∃ n2, n2 ≤ 2 ∧ upd s.1 (40 * j + m) (nI n) (40 * j + k) = nI n2
      rw [show vp_updL b.2 j (bWr (b.2 j) (b.1 j) (nI n)) j = bWr (b.2 j) (b.1 j) (nI n) from if_pos rfl, h1]
      by_cases ek : k = m
      · subst ek
        rw [pk_us, rd_wr _ (by omega) (by omega)]
        exact ⟨rfl, n, hn, rfl⟩
      · rw [pk_un (by omega), rd_wr_ne _ (by omega) (by omega) (by omega) ek]
        exact h2 k (by omega)
  · obtain ⟨m2, q1, q2, q3, q4⟩ := h j hj
    refine ⟨m2, q1, ?_, by show upd s.2 w (s.2 w + 1) j = _; rw [hM, if_neg e]; exact q3, fun k hk => ?_⟩
    · show upd b.1 w (b.1 w + 1) j = nI m2
      rw [pk_un e]; exact q2
    · show bRd (vp_updL b.2 w (bWr (b.2 w) (b.1 w) (nI n)) j) (nI k) = upd s.1 (40 * w + m) (nI n) (40 * j + k) ∧ ∃ n2, n2 ≤ 2 ∧ upd s.1 (40 * w + m) (nI n) (40 * j + k) = nI n2
      rw [show vp_updL b.2 w (bWr (b.2 w) (b.1 w) (nI n)) j = b.2 j from if_neg e, pk_un (by omega)]
      exact q4 k hk
theorem BR_pk {b : bS} {s : tS} (h : BR b s) {w m n : Nat} (hw : w < 27) (hm : s.2 w = nI m) (hm2 : m < 31) (hn : n ≤ 2) : BR (bPk b w (nI n)) (rPsh w (nI n) s) ∧ (∀ j, (rPsh w (nI n) s).2 j = if j = w then nI (m + 1) else s.2 j) := by
  obtain ⟨h1, h2⟩ := BR_at h hw hm (by omega)
  have hM : ∀ j, (rPsh w (nI n) s).2 j = if j = w then nI (m + 1) else s.2 j := fun j => by
    show upd s.2 w (s.2 w + 1) j = _
    by_cases e : j = w
    · rw [e, pk_us, if_pos rfl, hm, ← nI_succ]
    · rw [pk_un e, if_neg e]
  have hT : ∀ j, (rPsh w (nI n) s).1 j = if j = 40 * w then nI n else if 40 * w < j ∧ j ≤ 40 * w + m then s.1 (j - 1) else s.1 j := fun j => by
    show upd (shU w (s.2 w).toNatClampNeg s.1) (40 * w) (nI n) j = _
    rw [hm, nI_clamp (by omega)]
    by_cases e : j = 40 * w
    · rw [e, pk_us, if_pos rfl]
    · rw [pk_un e, if_neg e]; rfl
  refine ⟨fun j hj => ?_, hM⟩
  by_cases e : j = w
  · subst e
    refine ⟨m + 1, by omega, ?_, by rw [hM, if_pos rfl], fun k hk => ?_⟩
    · show upd b.1 j (b.1 j + 1) j = nI (m + 1)
      rw [pk_us, h1, ← nI_succ]
    · rw [hT]
      show bRd (vp_updL b.2 j (bPs (b.2 j) (nI n)) j) (nI k) = _ ∧ _
      rw [show vp_updL b.2 j (bPs (b.2 j) (nI n)) j = bPs (b.2 j) (nI n) from if_pos rfl]
      by_cases ek : k = 0
      · subst ek
        rw [if_pos (by omega), rd_ps0 _ (by omega)]
        exact ⟨rfl, n, hn, rfl⟩
      · rw [if_neg (by omega), if_pos ⟨by omega, by omega⟩]
        obtain ⟨k2, rfl⟩ : ∃ k2, k = k2 + 1 := ⟨k - 1, by omega⟩
        rw [rd_ps _ (by omega) (by omega), show 40 * j + (k2 + 1) - 1 = 40 * j + k2 from by omega]
        exact h2 k2 (by omega)
  · obtain ⟨m2, q1, q2, q3, q4⟩ := h j hj
    refine ⟨m2, q1, ?_, by rw [hM, if_neg e]; exact q3, fun k hk => ?_⟩
    · show upd b.1 w (b.1 w + 1) j = nI m2
      rw [pk_un e]; exact q2
    · rw [hT, if_neg (by omega), if_neg (by omega)]
      show bRd (vp_updL b.2 w (bPs (b.2 w) (nI n)) j) (nI k) = _ ∧ _
      rw [show vp_updL b.2 w (bPs (b.2 w) (nI n)) j = b.2 j from if_neg e]
      exact q4 k hk
/-- what gates make, in both -/
theorem made_2 {k a b : Nat} (hk : k ≤ 4) (ha : a ≤ 2) (hb : b ≤ 2) : ∃ n, n ≤ 2 ∧ gMade (nI k) (nI a) (nI b) = nI n ∧ rMade (nI k) (nI a) (nI b) = nI n := by
  have h : ∀ k, k < 5 → ∀ a, a < 3 → ∀ b, b < 3 → ∃ n, n < 3 ∧ gMade (nI k) (nI a) (nI b) = nI n ∧ rMade (nI k) (nI a) (nI b) = nI n := by decide
  obtain ⟨n, h1, h2⟩ := h k (by omega) a (by omega) b (by omega)
  exact ⟨n, by omega, h2⟩
theorem need_a {k v : Nat} (hk : k ≤ 4) (hv : v ≤ 2) : ∃ n, n ≤ 2 ∧ gNeed (nI k) (nI 0) (nI v) = nI n ∧ rBa (nI k) (nI v) = nI n := by
  have h : ∀ k, k < 5 → ∀ a, a < 3 → ∃ n, n < 3 ∧ gNeed (nI k) (nI 0) (nI a) = nI n ∧ rBa (nI k) (nI a) = nI n := by decide
  obtain ⟨n, h1, h2⟩ := h k (by omega) v (by omega)
  exact ⟨n, by omega, h2⟩
theorem need_b {k v : Nat} (hk : k ≤ 4) (h2 : 2 ≤ k) (hv : v ≤ 2) : ∃ n, n ≤ 2 ∧ gNeed (nI k) (nI 1) (nI v) = nI n ∧ rBb (nI k) (nI v) = nI n := by
  have h : ∀ k, k < 5 → 2 ≤ k → ∀ a, a < 3 → ∃ n, n < 3 ∧ gNeed (nI k) (nI 1) (nI a) = nI n ∧ rBb (nI k) (nI a) = nI n := by decide
  obtain ⟨n, h1, h2⟩ := h k (by omega) h2 v (by omega)
  exact ⟨n, by omega, h2⟩
/-- joining: what the flags say -/
def kjV (z o : Bool) : Nat := if z = true then (if o = true then 3 else 0) else if o = true then 1 else 2
theorem join_2 (z o : Bool) {n : Nat} (hn : n ≤ 2) : gJn (nI (kjV z o)) (nI n) = nI (kjV (z || decide (nI n = 0)) (o || decide (nI n = 1))) := by
  have h : ∀ n, n < 3 → ∀ z o : Bool, gJn (nI (kjV z o)) (nI n) = nI (kjV (z || decide (nI n = 0)) (o || decide (nI n = 1))) := by decide
  exact h n (by omega) z o
