/-! The reference: forward, backward. -/
/-- every wire's number of registers under N -/
def tB (N : Nat) (M : Nat → Int32) : Prop := ∀ w, w < 27 → ∃ m, m < N ∧ M w = nI m
theorem tB_upd {N i : Nat} {M : Nat → Int32} {m : Nat} (h : tB N M) (hm : m < N) : tB N (upd M i (nI m)) := fun w hw => by
  unfold upd
  by_cases e : w = i
  · exact ⟨m, hm, if_pos e⟩
  · rw [if_neg e]; exact h w hw
theorem tB_pos {N : Nat} {M : Nat → Int32} (h : tB N M) {w : Nat} (hw : w < 27) (h0 : ¬ M w ≤ 0) : ∃ m, m + 1 < N ∧ M w = nI (m + 1) := by
  obtain ⟨m, hm, e⟩ := h w hw
  cases m with
  | zero => rw [e] at h0; exact absurd (by decide) h0
  | succ m => exact ⟨m, hm, e⟩
theorem nI_s1 (m : Nat) : nI (m + 1) - 1 = nI m := by rw [show (1 : Int32) = nI 1 from rfl, pk_sub (by omega)]; rfl
theorem tB_mono {N N2 : Nat} {M : Nat → Int32} (h : tB N M) (hn : N ≤ N2) : tB N2 M := fun w hw => by
  obtain ⟨m, hm, e⟩ := h w hw
  exact ⟨m, by omega, e⟩
def rF2 (I : Nat → Nat → Int32) (g : Nat) (s : tS) : tS × Int32 × Int32 := if pn (I 1) g = 2 then (rPul (2 * g - 1) (rPul (2 * g - 2) s), s.1 (40 * (2 * g - 2)), (rPul (2 * g - 2) s).1 (40 * (2 * g - 1))) else (rPul (2 * g - 2) s, s.1 (40 * (2 * g - 2)), 2)
def rOw (I : Nat → Nat → Int32) (g : Nat) (v : Int32) (i : Nat) (s : tS) : tS := if I 3 i = nI g then (upd s.1 (40 * i + (s.2 i).toNatClampNeg) v, upd s.2 i (s.2 i + 1)) else s
def rFwd (I : Nat → Nat → Int32) (g : Nat) (s : tS) : tS := lp (rOw I g (rMade (I 1 g) (rF2 I g s).2.1 (rF2 I g s).2.2)) 27 (rF2 I g s).1
theorem rOw_keep {I : Nat → Nat → Int32} {g : Nat} {v : Int32} {s : tS} : ∀ i j, i ≤ j → (lp (rOw I g v) i s).2 j = s.2 j
  | 0, _, _ => rfl
  | i + 1, j, h => by
    show (rOw I g v i (lp (rOw I g v) i s)).2 j = s.2 j
    unfold rOw
    split
    · exact (pk_un (k := i) (j := j) (by omega)).trans (rOw_keep i j (by omega))
    · exact rOw_keep i j (by omega)
theorem tB_pul {N i m : Nat} {s : tS} (h : tB N s.2) (e : s.2 i = nI (m + 1)) (hm : m < N) : tB N (rPul i s).2 := by
  unfold rPul
  show tB N (upd s.2 i (s.2 i - 1))
  rw [e, nI_s1]
  exact tB_upd h hm
theorem rCF_at {kd M : Nat → Int32} {g k : Nat} (h : rCF kd M g = true) (hk : k < pn kd g) : ¬ M (2 * g - 2 + k) ≤ 0 := of_decide_eq_true (allB_iff.mp h k hk)
theorem rF2_b {N : Nat} {I : Nat → Nat → Int32} {g : Nat} {s : tS} (g1 : 1 ≤ g) (g2 : g ≤ 12) (h : tB N s.2) (hf : rCF (I 1) s.2 g = true) : tB N (rF2 I g s).1.2 := by
  have hp := pn_le (I 1) g
  obtain ⟨m, hm, em⟩ := tB_pos h (w := 2 * g - 2) (by omega) (rCF_at (k := 0) hf (by omega))
  have h1 := tB_pul h em (by omega)
  unfold rF2
  by_cases e : pn (I 1) g = 2
  · rw [if_pos e]
    obtain ⟨m2, hm2, em2⟩ := tB_pos h (w := 2 * g - 2 + 1) (by omega) (rCF_at (k := 1) hf (by omega))
    rw [show 2 * g - 2 + 1 = 2 * g - 1 from by omega] at em2
    refine tB_pul (m := m2) h1 ?_ (by omega)
    show upd s.2 (2 * g - 2) (s.2 (2 * g - 2) - 1) (2 * g - 1) = _
    rw [pk_un (by omega)]
    exact em2
  · rw [if_neg e]
    exact h1
theorem cM_forward {thr cnt : Int32} {I : Nat → Nat → Int32} {Q : mx_O → List va_E → Prop} {s : tS} {g : Nat} (g1 : 1 ≤ g) (g2 : g ≤ 12) (hb : tB 40 s.2) (hf : rCF (I 1) s.2 g = true) (hQ : Q (.inl none) (rp thr cnt (tI I (rFwd I g s)))) : mx_W mx_K mT mCl jM_forward (mR 1 23) 0 [.ref 0, .int (nI g), .retAddr 0, .retAddr 0, .retAddr 0, .retAddr 0] [] (rp thr cnt (tI I (s))) Q := by
  have hp := pn_le (I 1) g
  have hb2 := rF2_b g1 g2 hb hf
  obtain ⟨m, hm, em⟩ := tB_pos hb (w := 2 * g - 2) (by omega) (rCF_at (k := 0) hf (by omega))
  unfold rFwd at hQ
  have hl : ∀ (a b v : Int32) (s2 : tS), tB 40 s2.2 → Q (.inl none) (rp thr cnt (tI I (lp (rOw I g v) 27 s2))) → ∀ i, i ≤ 27 → mx_W mx_K mT mCl jM_forward (mR 1 23) 49 [.ref 0, .int (nI g), .int (a), .int (b), .int (v), .int (nI i)] [] (rp thr cnt (tI I (lp (rOw I g v) i s2))) Q := by
    intro a b v s2 hs2 hq
    refine lp_down ?_ ?_
    · refine mx_iload dM_forward_49 rfl ?_
      refine mx_bipush (27) dM_forward_51 (by decide) ?_
      refine mx_icmp_ge 104 dM_forward_53 rfl (fun h53 => ?_) (fun h53 => ?_)
      rotate_left
      · exact absurd (show (27 : Int32) ≤ nI 27 by decide) h53
      refine mx_vret dM_forward_104 rfl ?_
      exact hq
    · intro i hi ih
      have hk : (lp (rOw I g v) i s2).2 i = s2.2 i := rOw_keep i i (Nat.le_refl _)
      have ih : mx_W mx_K mT mCl jM_forward (mR 1 23) 49 [.ref 0, .int (nI g), .int (a), .int (b), .int (v), .int (nI (i + 1))] [] (rp thr cnt (tI I (rOw I g v i (lp (rOw I g v) i s2)))) Q := ih
      obtain ⟨m, hm, em⟩ := hs2 i hi
      rw [em] at hk
      generalize lp (rOw I g v) i s2 = t at ih hk ⊢
      unfold rOw at ih
      refine mx_iload dM_forward_49 rfl ?_
      refine mx_bipush (27) dM_forward_51 (by decide) ?_
      refine mx_icmp_ge 104 dM_forward_53 rfl (fun h53 => ?_) (fun h53 => ?_)
      · exact absurd h53 (nI_ge (b := 27) hi (by decide))
      refine mx_aload_n dM_forward_56 rfl ?_
      refine mx_get 8 4 dM_forward_57 fgM_16 rfl rfl ?_
      refine mx_iload dM_forward_60 rfl ?_
      refine mx_iald dM_forward_62 rfl (vp_in_nI (by omega) (by decide)) ?_
      rw [nI_clamp (by omega), tI_ne (by decide) (by decide)]
      refine mx_iload_n dM_forward_63 rfl ?_
      refine mx_icmp_ne 98 dM_forward_64 rfl (fun h64 => ?_) (fun h64 => ?_)
      · first
          | (rw [if_neg h64] at ih; refine mx_iinc dM_forward_98 rfl (mx_inc _) (Nat.le_of_ble_eq_true rfl) rfl ?_; refine mx_goto 49 dM_forward_101 rfl ?_; exact ih)
          | (rw [if_pos h64, hk, nI_clamp (by omega), ← nI_succ] at ih; rw [nI_clamp (by omega)]; refine mx_iinc dM_forward_98 rfl (mx_inc _) (Nat.le_of_ble_eq_true rfl) rfl ?_; refine mx_goto 49 dM_forward_101 rfl ?_; refine mx_eqs rfl rfl rfl (rp_8 _) ?_; rw [tI_8, tI_s8]; simp only [hk]; rw [← nI_succ]; exact ih)
      · refine mx_aload_n dM_forward_67 rfl ?_
        refine mx_get 8 8 dM_forward_68 fgM_28 rfl rfl ?_
        refine mx_bipush (40) dM_forward_71 (by decide) ?_
        refine mx_iload dM_forward_73 rfl ?_
        refine mx_imul dM_forward_75 ?_
        refine mx_aload_n dM_forward_76 rfl ?_
        refine mx_get 8 9 dM_forward_77 fgM_31 rfl rfl ?_
        refine mx_iload dM_forward_80 rfl ?_
        refine mx_iald dM_forward_82 rfl (vp_in_nI (by omega) (by decide)) ?_
        rw [nI_clamp (by omega), tI_8, hk]
        refine mx_iadd dM_forward_83 ?_
        rw [show (40 : Int32) = nI 40 from rfl, pk_mul, nI_add]
        refine mx_iload dM_forward_84 rfl ?_
        refine mx_iast dM_forward_86 rfl (vp_in_nI (by omega) (by decide)) ?_
        rw [nI_clamp (by omega)]
        refine mx_eqs rfl rfl rfl (rp_7 _) ?_
        rw [tI_7, tI_s7]
        refine mx_aload_n dM_forward_87 rfl ?_
        refine mx_get 8 9 dM_forward_88 fgM_31 rfl rfl ?_
        refine mx_iload dM_forward_91 rfl ?_
        refine mx_dup2 dM_forward_93 rfl rfl ?_
        refine mx_iald dM_forward_94 rfl (vp_in_nI (by omega) (by decide)) ?_
        rw [nI_clamp (by omega), tI_8]
        refine mx_iconst (1) dM_forward_95 (by decide) ?_
        refine mx_iadd dM_forward_96 ?_
        refine mx_iast dM_forward_97 rfl (vp_in_nI (by omega) (by decide)) ?_
        first
          | (rw [if_neg h64] at ih; refine mx_iinc dM_forward_98 rfl (mx_inc _) (Nat.le_of_ble_eq_true rfl) rfl ?_; refine mx_goto 49 dM_forward_101 rfl ?_; exact ih)
          | (rw [if_pos h64, hk, nI_clamp (by omega), ← nI_succ] at ih; rw [nI_clamp (by omega)]; refine mx_iinc dM_forward_98 rfl (mx_inc _) (Nat.le_of_ble_eq_true rfl) rfl ?_; refine mx_goto 49 dM_forward_101 rfl ?_; refine mx_eqs rfl rfl rfl (rp_8 _) ?_; rw [tI_8, tI_s8]; simp only [hk]; rw [← nI_succ]; exact ih)
  refine mx_aload_n dM_forward_0 rfl ?_
  refine mx_iconst (2) dM_forward_1 (by decide) ?_
  refine mx_iload_n dM_forward_2 rfl ?_
  refine mx_imul dM_forward_3 ?_
  refine mx_iconst (2) dM_forward_4 (by decide) ?_
  refine mx_isub dM_forward_5 ?_
  rw [show (2 : Int32) = nI 2 from rfl, pk_mul, pk_sub (by omega)]
  refine mx_V1 (R' := (mR 0 0)) [_] _ dM_forward_6 rfl mT_G jM_pull_ok jM_pull_v lkM_113 ⟨rfl, rfl, Nat.le_of_ble_eq_true rfl, Nat.le_of_ble_eq_true rfl⟩ rfl rfl (Nat.le_of_ble_eq_true rfl) (Nat.le_of_ble_eq_true rfl) rfl rfl rfl (fun Qc qc => cM_pull (by omega) (by omega) em qc) ?_
  refine mx_istore_n dM_forward_9 (Nat.le_of_ble_eq_true rfl) rfl ?_
  refine mx_aload_n dM_forward_10 rfl ?_
  refine mx_iload_n dM_forward_11 rfl ?_
  refine mx_V1 (R' := (mR 0 0)) [_] _ dM_forward_12 rfl mT_G jM_pins_ok jM_pins_v lkM_63 ⟨rfl, rfl, Nat.le_of_ble_eq_true rfl, Nat.le_of_ble_eq_true rfl⟩ rfl rfl (Nat.le_of_ble_eq_true rfl) (Nat.le_of_ble_eq_true rfl) rfl rfl rfl (fun Qc qc => cM_pins (vp_in_nI (by omega) (by decide)) qc) ?_
  rw [tI_ne (by decide) (by decide), pn_nat (by omega)]
  refine mx_iconst (2) dM_forward_15 (by decide) ?_
  refine mx_icmp_ne 31 dM_forward_16 rfl (fun h16 => ?_) (fun h16 => ?_)
  · have e2 : ¬ pn (I 1) g = 2 := fun e => h16 (by rw [e]; rfl)
    unfold rF2 at hQ hb2
    rw [if_neg e2] at hQ hb2
    refine mx_iconst (2) dM_forward_31 (by decide) ?_
    refine mx_istore_n dM_forward_32 (Nat.le_of_ble_eq_true rfl) rfl ?_
    refine mx_aload_n dM_forward_33 rfl ?_
    refine mx_get 8 2 dM_forward_34 fgM_7 rfl rfl ?_
    refine mx_iload_n dM_forward_37 rfl ?_
    refine mx_iald dM_forward_38 rfl (vp_in_nI (by omega) (by decide)) ?_
    rw [nI_clamp (by omega), tI_ne (by decide) (by decide)]
    refine mx_iload_n dM_forward_39 rfl ?_
    refine mx_iload_n dM_forward_40 rfl ?_
    refine mx_S1 (R' := (mR 0 0)) [_, _, _] _ dM_forward_41 rfl mT_G jM_made_ok jM_made_v lkM_116 ⟨rfl, rfl, Nat.le_of_ble_eq_true rfl, Nat.le_of_ble_eq_true rfl⟩ rfl rfl (Nat.le_of_ble_eq_true rfl) (Nat.le_of_ble_eq_true rfl) (fun Qc qc => cM_made qc) ?_
    refine mx_istore dM_forward_44 (Nat.le_of_ble_eq_true rfl) rfl ?_
    refine mx_iconst (0) dM_forward_46 (by decide) ?_
    refine mx_istore dM_forward_47 (Nat.le_of_ble_eq_true rfl) rfl ?_
    exact hl _ _ _ _ hb2 hQ 0 (Nat.zero_le _)
  · have e2 : pn (I 1) g = 2 := (nI_eq (b := 2) (by omega) (by decide)).mp h16
    unfold rF2 at hQ hb2
    rw [if_pos e2] at hQ hb2
    obtain ⟨m2, hm2, em2⟩ := tB_pos hb (w := 2 * g - 2 + 1) (by omega) (rCF_at (k := 1) hf (by omega))
    rw [show 2 * g - 2 + 1 = 2 * g - 1 from by omega] at em2
    have em3 : (rPul (2 * g - 2) s).2 (2 * g - 1) = nI (m2 + 1) := by
      show upd s.2 (2 * g - 2) (s.2 (2 * g - 2) - 1) (2 * g - 1) = _
      rw [pk_un (by omega)]
      exact em2
    refine mx_aload_n dM_forward_19 rfl ?_
    refine mx_iconst (2) dM_forward_20 (by decide) ?_
    refine mx_iload_n dM_forward_21 rfl ?_
    refine mx_imul dM_forward_22 ?_
    refine mx_iconst (1) dM_forward_23 (by decide) ?_
    refine mx_isub dM_forward_24 ?_
    rw [show (2 : Int32) = nI 2 from rfl, show (1 : Int32) = nI 1 from rfl, pk_mul, pk_sub (by omega)]
    refine mx_V1 (R' := (mR 0 0)) [_] _ dM_forward_25 rfl mT_G jM_pull_ok jM_pull_v lkM_113 ⟨rfl, rfl, Nat.le_of_ble_eq_true rfl, Nat.le_of_ble_eq_true rfl⟩ rfl rfl (Nat.le_of_ble_eq_true rfl) (Nat.le_of_ble_eq_true rfl) rfl rfl rfl (fun Qc qc => cM_pull (by omega) (by omega) em3 qc) ?_
    refine mx_goto 32 dM_forward_28 rfl ?_
    refine mx_istore_n dM_forward_32 (Nat.le_of_ble_eq_true rfl) rfl ?_
    refine mx_aload_n dM_forward_33 rfl ?_
    refine mx_get 8 2 dM_forward_34 fgM_7 rfl rfl ?_
    refine mx_iload_n dM_forward_37 rfl ?_
    refine mx_iald dM_forward_38 rfl (vp_in_nI (by omega) (by decide)) ?_
    rw [nI_clamp (by omega), tI_ne (by decide) (by decide)]
    refine mx_iload_n dM_forward_39 rfl ?_
    refine mx_iload_n dM_forward_40 rfl ?_
    refine mx_S1 (R' := (mR 0 0)) [_, _, _] _ dM_forward_41 rfl mT_G jM_made_ok jM_made_v lkM_116 ⟨rfl, rfl, Nat.le_of_ble_eq_true rfl, Nat.le_of_ble_eq_true rfl⟩ rfl rfl (Nat.le_of_ble_eq_true rfl) (Nat.le_of_ble_eq_true rfl) (fun Qc qc => cM_made qc) ?_
    refine mx_istore dM_forward_44 (Nat.le_of_ble_eq_true rfl) rfl ?_
    refine mx_iconst (0) dM_forward_46 (by decide) ?_
    refine mx_istore dM_forward_47 (Nat.le_of_ble_eq_true rfl) rfl ?_
    exact hl _ _ _ _ hb2 hQ 0 (Nat.zero_le _)
abbrev bS3 : Type := (Nat → Int32) × Bool × Bool
def rBw (I : Nat → Nat → Int32) (g : Nat) (T : Nat → Int32) (i : Nat) (s : bS3) : bS3 := if I 3 i = nI g then (upd s.1 i (s.1 i - 1), s.2.1 || decide (T (40 * i + (s.1 i - 1).toNatClampNeg) = 0), s.2.2 || decide (T (40 * i + (s.1 i - 1).toNatClampNeg) = 1)) else s
def rBv (z o : Bool) : Int32 := if o = true then 1 else if z = true then 0 else 2
def rBa (k v : Int32) : Int32 := if v = 2 then v else if k = 1 then 1 - v else v
def rBB (k v : Int32) : Bool := decide (k = 2 ∧ v = 1) || decide (k = 3 ∧ v = 0)
def rBb (k v : Int32) : Int32 := if ¬ v = 2 then (if i01 (rBB k v) = 0 then (if ¬ k = 4 then 2 else 0) else v) else 2
def rBq (I : Nat → Nat → Int32) (g : Nat) (s : tS) : bS3 := lp (rBw I g s.1) 27 (s.2, false, false)
def rBt (I : Nat → Nat → Int32) (g : Nat) (a b : Int32) (s : tS) : tS := if pn (I 1) g = 2 then rPsh (2 * g - 1) b (rPsh (2 * g - 2) a s) else rPsh (2 * g - 2) a s
def rBwd (I : Nat → Nat → Int32) (g : Nat) (s : tS) : tS × Bool := (rBt I g (rBa (I 1 g) (rBv (rBq I g s).2.1 (rBq I g s).2.2)) (rBb (I 1 g) (rBv (rBq I g s).2.1 (rBq I g s).2.2)) (s.1, (rBq I g s).1), !((rBq I g s).2.1 && (rBq I g s).2.2))
theorem rCB_at {fr M : Nat → Int32} {g i : Nat} (h : rCB fr M g = true) (hi : i < 27) (e : fr i = nI g) : ¬ M i ≤ 0 := (of_decide_eq_true (allB_iff.mp h i hi)).elim (fun q => absurd e q) id
theorem rBw_keep {I : Nat → Nat → Int32} {g : Nat} {T : Nat → Int32} {s : bS3} : ∀ i j, i ≤ j → (lp (rBw I g T) i s).1 j = s.1 j
  | 0, _, _ => rfl
  | i + 1, j, h => by
    show (rBw I g T i (lp (rBw I g T) i s)).1 j = s.1 j
    unfold rBw
    split
    · exact (pk_un (k := i) (j := j) (by omega)).trans (rBw_keep i j (by omega))
    · exact rBw_keep i j (by omega)
theorem rBw_b {N : Nat} {I : Nat → Nat → Int32} {g : Nat} {T M : Nat → Int32} {z o : Bool} (h : tB N M) (hc : rCB (I 3) M g = true) : ∀ i, i ≤ 27 → tB N (lp (rBw I g T) i (M, z, o)).1
  | 0, _ => h
  | i + 1, hi => by
    show tB N (rBw I g T i (lp (rBw I g T) i (M, z, o))).1
    have ih := rBw_b (I := I) (T := T) (z := z) (o := o) h hc i (by omega)
    have hk : (lp (rBw I g T) i (M, z, o)).1 i = M i := rBw_keep i i (Nat.le_refl _)
    unfold rBw
    by_cases e : I 3 i = nI g
    · rw [if_pos e]
      obtain ⟨m, hm, em⟩ := tB_pos h (w := i) (by omega) (rCB_at hc (by omega) e)
      show tB N (upd (lp (rBw I g T) i (M, z, o)).1 i ((lp (rBw I g T) i (M, z, o)).1 i - 1))
      rw [hk, em, nI_s1]
      exact tB_upd ih (by omega)
    · rw [if_neg e]
      exact ih
theorem cM_backward {thr cnt : Int32} {I : Nat → Nat → Int32} {Q : mx_O → List va_E → Prop} {s : tS} {g : Nat} (g1 : 1 ≤ g) (g2 : g ≤ 12) (hb : tB 40 s.2) (hc : rCB (I 3) s.2 g = true) (hQ : Q (.inl (some (.int (i01 (rBwd I g s).2)))) (rp thr cnt (tI I ((rBwd I g s).1)))) : mx_W mx_K mT mCl jM_backward (mR 1 23) 0 [.ref 0, .int (nI g), .retAddr 0, .retAddr 0, .retAddr 0, .retAddr 0, .retAddr 0, .retAddr 0, .retAddr 0] [] (rp thr cnt (tI I (s))) Q := by
  have hp := pn_le (I 1) g
  unfold rBwd at hQ
  have hbq : tB 40 (rBq I g s).1 := rBw_b hb hc 27 (Nat.le_refl _)
  have h6 : ∀ (z o : Bool) (v k a b x : Int32) (t : tS), Q (.inl (some (.int (i01 (!(z && o)))))) (rp thr cnt (tI I t)) → mx_W mx_K mT mCl jM_backward (mR 1 23) 237 [.ref 0, .int (nI g), .int (i01 z), .int (i01 o), .int (v), .int (k), .int (a), .int (x), .int (b)] [] (rp thr cnt (tI I (t))) Q := by
    intro z o v k a b x t hq
    refine mx_iload_n dM_backward_237 rfl ?_
    refine mx_if_eq 245 dM_backward_238 rfl (fun h238 => ?_) (fun h238 => ?_)
    · refine mx_iconst (1) dM_backward_245 (by decide) ?_
      refine mx_goto 250 dM_backward_246 rfl ?_
      refine mx_iret dM_backward_250 rfl rfl ?_
      first
        | (rw [i01_z h238] at hq; exact hq)
        | (rw [i01_nz h238, i01_nz h242] at hq; exact hq)
        | (rw [i01_nz h238, i01_z h242] at hq; exact hq)
    · refine mx_iload_n dM_backward_241 rfl ?_
      refine mx_if_ne 249 dM_backward_242 rfl (fun h242 => ?_) (fun h242 => ?_)
      · refine mx_iconst (0) dM_backward_249 (by decide) ?_
        refine mx_iret dM_backward_250 rfl rfl ?_
        first
          | (rw [i01_z h238] at hq; exact hq)
          | (rw [i01_nz h238, i01_nz h242] at hq; exact hq)
          | (rw [i01_nz h238, i01_z h242] at hq; exact hq)
      · refine mx_iconst (1) dM_backward_245 (by decide) ?_
        refine mx_goto 250 dM_backward_246 rfl ?_
        refine mx_iret dM_backward_250 rfl rfl ?_
        first
          | (rw [i01_z h238] at hq; exact hq)
          | (rw [i01_nz h238, i01_nz h242] at hq; exact hq)
          | (rw [i01_nz h238, i01_z h242] at hq; exact hq)
  have h5 : ∀ (z o : Bool) (v k a b x : Int32) (M : Nat → Int32), tB 40 M → Q (.inl (some (.int (i01 (!(z && o)))))) (rp thr cnt (tI I (rBt I g a b (s.1, M)))) → mx_W mx_K mT mCl jM_backward (mR 1 23) 206 [.ref 0, .int (nI g), .int (i01 z), .int (i01 o), .int (v), .int (k), .int (a), .int (x), .int (b)] [] (rp thr cnt (tI I (s.1, M))) Q := by
    intro z o v k a b x M hM hq
    obtain ⟨m, hm, em⟩ := hM (2 * g - 2) (by omega)
    unfold rBt at hq
    refine mx_aload_n dM_backward_206 rfl ?_
    refine mx_iconst (2) dM_backward_207 (by decide) ?_
    refine mx_iload_n dM_backward_208 rfl ?_
    refine mx_imul dM_backward_209 ?_
    refine mx_iconst (2) dM_backward_210 (by decide) ?_
    refine mx_isub dM_backward_211 ?_
    rw [show (2 : Int32) = nI 2 from rfl, pk_mul, pk_sub (by omega)]
    refine mx_iload dM_backward_212 rfl ?_
    refine mx_V1 (R' := (mR 0 0)) [_, _] _ dM_backward_214 rfl mT_G jM_push_ok jM_push_v lkM_120 ⟨rfl, rfl, Nat.le_of_ble_eq_true rfl, Nat.le_of_ble_eq_true rfl⟩ rfl rfl (Nat.le_of_ble_eq_true rfl) (Nat.le_of_ble_eq_true rfl) rfl rfl rfl (fun Qc qc => cM_push (by omega) (by omega) em qc) ?_
    refine mx_aload_n dM_backward_217 rfl ?_
    refine mx_iload_n dM_backward_218 rfl ?_
    refine mx_V1 (R' := (mR 0 0)) [_] _ dM_backward_219 rfl mT_G jM_pins_ok jM_pins_v lkM_63 ⟨rfl, rfl, Nat.le_of_ble_eq_true rfl, Nat.le_of_ble_eq_true rfl⟩ rfl rfl (Nat.le_of_ble_eq_true rfl) (Nat.le_of_ble_eq_true rfl) rfl rfl rfl (fun Qc qc => cM_pins (vp_in_nI (by omega) (by decide)) qc) ?_
    rw [tI_ne (by decide) (by decide), pn_nat (by omega)]
    refine mx_iconst (2) dM_backward_222 (by decide) ?_
    refine mx_icmp_ne 237 dM_backward_223 rfl (fun h223 => ?_) (fun h223 => ?_)
    · rw [if_neg (fun e => h223 (by rw [e]; rfl))] at hq
      exact h6 z o v k a b x _ hq
    · rw [if_pos ((nI_eq (b := 2) (by omega) (by decide)).mp h223)] at hq
      obtain ⟨m2, hm2, em2⟩ := hM (2 * g - 1) (by omega)
      have em3 : (rPsh (2 * g - 2) a (s.1, M)).2 (2 * g - 1) = nI m2 := by
        show upd M (2 * g - 2) (M (2 * g - 2) + 1) (2 * g - 1) = _
        rw [pk_un (by omega)]
        exact em2
      refine mx_aload_n dM_backward_226 rfl ?_
      refine mx_iconst (2) dM_backward_227 (by decide) ?_
      refine mx_iload_n dM_backward_228 rfl ?_
      refine mx_imul dM_backward_229 ?_
      refine mx_iconst (1) dM_backward_230 (by decide) ?_
      refine mx_isub dM_backward_231 ?_
      rw [show (2 : Int32) = nI 2 from rfl, show (1 : Int32) = nI 1 from rfl, pk_mul, pk_sub (by omega)]
      refine mx_iload dM_backward_232 rfl ?_
      refine mx_V1 (R' := (mR 0 0)) [_, _] _ dM_backward_234 rfl mT_G jM_push_ok jM_push_v lkM_120 ⟨rfl, rfl, Nat.le_of_ble_eq_true rfl, Nat.le_of_ble_eq_true rfl⟩ rfl rfl (Nat.le_of_ble_eq_true rfl) (Nat.le_of_ble_eq_true rfl) rfl rfl rfl (fun Qc qc => cM_push (by omega) (by omega) em3 qc) ?_
      exact h6 z o v k a b x _ hq
  have h4 : ∀ (z o : Bool) (v k a : Int32) (M : Nat → Int32), tB 40 M → Q (.inl (some (.int (i01 (!(z && o)))))) (rp thr cnt (tI I (rBt I g a (rBb k v) (s.1, M)))) → mx_W mx_K mT mCl jM_backward (mR 1 23) 173 [.ref 0, .int (nI g), .int (i01 z), .int (i01 o), .int (v), .int (k), .int (a), .int (i01 (rBB k v)), .retAddr 0] [] (rp thr cnt (tI I (s.1, M))) Q := by
    intro z o v k a M hM hq
    have h := h5 z o v k a (rBb k v) (i01 (rBB k v)) M hM hq
    unfold rBb at h
    refine mx_iload dM_backward_173 rfl ?_
    refine mx_iconst (2) dM_backward_175 (by decide) ?_
    refine mx_icmp_ne 183 dM_backward_176 rfl (fun h176 => ?_) (fun h176 => ?_)
    · refine mx_iload dM_backward_183 rfl ?_
      refine mx_if_eq 193 dM_backward_185 rfl (fun h185 => ?_) (fun h185 => ?_)
      · refine mx_iload dM_backward_193 rfl ?_
        refine mx_iconst (4) dM_backward_195 (by decide) ?_
        refine mx_icmp_ne 203 dM_backward_196 rfl (fun h196 => ?_) (fun h196 => ?_)
        · refine mx_iconst (2) dM_backward_203 (by decide) ?_
          refine mx_istore dM_backward_204 (Nat.le_of_ble_eq_true rfl) rfl ?_
          first
            | (rw [if_pos h176, if_pos h185, if_pos h196] at h; exact h)
            | (rw [if_pos h176, if_pos h185, if_neg (fun q => q h196)] at h; exact h)
            | (rw [if_pos h176, if_neg h185] at h; exact h)
            | (rw [if_neg (fun q => q h176)] at h; exact h)
        · refine mx_iconst (0) dM_backward_199 (by decide) ?_
          refine mx_goto 204 dM_backward_200 rfl ?_
          refine mx_istore dM_backward_204 (Nat.le_of_ble_eq_true rfl) rfl ?_
          first
            | (rw [if_pos h176, if_pos h185, if_pos h196] at h; exact h)
            | (rw [if_pos h176, if_pos h185, if_neg (fun q => q h196)] at h; exact h)
            | (rw [if_pos h176, if_neg h185] at h; exact h)
            | (rw [if_neg (fun q => q h176)] at h; exact h)
      · refine mx_iload dM_backward_188 rfl ?_
        refine mx_goto 204 dM_backward_190 rfl ?_
        refine mx_istore dM_backward_204 (Nat.le_of_ble_eq_true rfl) rfl ?_
        first
          | (rw [if_pos h176, if_pos h185, if_pos h196] at h; exact h)
          | (rw [if_pos h176, if_pos h185, if_neg (fun q => q h196)] at h; exact h)
          | (rw [if_pos h176, if_neg h185] at h; exact h)
          | (rw [if_neg (fun q => q h176)] at h; exact h)
    · refine mx_iconst (2) dM_backward_179 (by decide) ?_
      refine mx_goto 204 dM_backward_180 rfl ?_
      refine mx_istore dM_backward_204 (Nat.le_of_ble_eq_true rfl) rfl ?_
      first
        | (rw [if_pos h176, if_pos h185, if_pos h196] at h; exact h)
        | (rw [if_pos h176, if_pos h185, if_neg (fun q => q h196)] at h; exact h)
        | (rw [if_pos h176, if_neg h185] at h; exact h)
        | (rw [if_neg (fun q => q h176)] at h; exact h)
  have h3 : ∀ (z o : Bool) (v k a : Int32) (M : Nat → Int32), tB 40 M → Q (.inl (some (.int (i01 (!(z && o)))))) (rp thr cnt (tI I (rBt I g a (rBb k v) (s.1, M)))) → mx_W mx_K mT mCl jM_backward (mR 1 23) 143 [.ref 0, .int (nI g), .int (i01 z), .int (i01 o), .int (v), .int (k), .int (a), .retAddr 0, .retAddr 0] [] (rp thr cnt (tI I (s.1, M))) Q := by
    intro z o v k a M hM hq
    have h := h4 z o v k a M hM hq
    refine mx_iload dM_backward_143 rfl ?_
    refine mx_iconst (2) dM_backward_145 (by decide) ?_
    refine mx_icmp_ne 155 dM_backward_146 rfl (fun h146 => ?_) (fun h146 => ?_)
    · refine mx_iload dM_backward_155 rfl ?_
      refine mx_iconst (3) dM_backward_157 (by decide) ?_
      refine mx_icmp_ne 170 dM_backward_158 rfl (fun h158 => ?_) (fun h158 => ?_)
      · refine mx_iconst (0) dM_backward_170 (by decide) ?_
        refine mx_istore dM_backward_171 (Nat.le_of_ble_eq_true rfl) rfl ?_
        first
          | (rw [h146] at h158; exact absurd h158 (by decide))
          | (rw [show rBB k v = true from by simp [rBB, h146, h158]] at h; exact h)
          | (rw [show rBB k v = false from by simp [rBB, h146, h158]] at h; exact h)
          | (rw [h146] at h158; exact absurd h158 (by decide))
      · refine mx_iload dM_backward_161 rfl ?_
        refine mx_if_ne 170 dM_backward_163 rfl (fun h163 => ?_) (fun h163 => ?_)
        · refine mx_iconst (0) dM_backward_170 (by decide) ?_
          refine mx_istore dM_backward_171 (Nat.le_of_ble_eq_true rfl) rfl ?_
          first
            | (rw [h146] at h158; exact absurd h158 (by decide))
            | (rw [show rBB k v = true from by simp [rBB, h146, h158, h163]] at h; exact h)
            | (rw [show rBB k v = false from by simp [rBB, h146, h158, h163]] at h; exact h)
            | (rw [h146] at h158; exact absurd h158 (by decide))
        · refine mx_iconst (1) dM_backward_166 (by decide) ?_
          refine mx_goto 171 dM_backward_167 rfl ?_
          refine mx_istore dM_backward_171 (Nat.le_of_ble_eq_true rfl) rfl ?_
          first
            | (rw [h146] at h158; exact absurd h158 (by decide))
            | (rw [show rBB k v = true from by simp [rBB, h146, h158, h163]] at h; exact h)
            | (rw [show rBB k v = false from by simp [rBB, h146, h158, h163]] at h; exact h)
            | (rw [h146] at h158; exact absurd h158 (by decide))
    · refine mx_iload dM_backward_149 rfl ?_
      refine mx_iconst (1) dM_backward_151 (by decide) ?_
      refine mx_icmp_eq 166 dM_backward_152 rfl (fun h152 => ?_) (fun h152 => ?_)
      · refine mx_iconst (1) dM_backward_166 (by decide) ?_
        refine mx_goto 171 dM_backward_167 rfl ?_
        refine mx_istore dM_backward_171 (Nat.le_of_ble_eq_true rfl) rfl ?_
        first
          | (rw [h146] at h158; exact absurd h158 (by decide))
          | (rw [show rBB k v = true from by simp [rBB, h146, h152]] at h; exact h)
          | (rw [show rBB k v = false from by simp [rBB, h146, h152]] at h; exact h)
          | (rw [h146] at h158; exact absurd h158 (by decide))
      · refine mx_iload dM_backward_155 rfl ?_
        refine mx_iconst (3) dM_backward_157 (by decide) ?_
        refine mx_icmp_ne 170 dM_backward_158 rfl (fun h158 => ?_) (fun h158 => ?_)
        · refine mx_iconst (0) dM_backward_170 (by decide) ?_
          refine mx_istore dM_backward_171 (Nat.le_of_ble_eq_true rfl) rfl ?_
          first
            | (rw [h146] at h158; exact absurd h158 (by decide))
            | (rw [show rBB k v = true from by simp [rBB, h146, h152, h158]] at h; exact h)
            | (rw [show rBB k v = false from by simp [rBB, h146, h152, h158]] at h; exact h)
            | (rw [h146] at h158; exact absurd h158 (by decide))
        · refine mx_iload dM_backward_161 rfl ?_
          refine mx_if_ne 170 dM_backward_163 rfl (fun h163 => ?_) (fun h163 => ?_)
          · refine mx_iconst (0) dM_backward_170 (by decide) ?_
            refine mx_istore dM_backward_171 (Nat.le_of_ble_eq_true rfl) rfl ?_
            first
              | (rw [h146] at h158; exact absurd h158 (by decide))
              | (rw [show rBB k v = true from by simp [rBB, h146, h152, h158, h163]] at h; exact h)
              | (rw [show rBB k v = false from by simp [rBB, h146, h152, h158, h163]] at h; exact h)
              | (rw [h146] at h158; exact absurd h158 (by decide))
          · refine mx_iconst (1) dM_backward_166 (by decide) ?_
            refine mx_goto 171 dM_backward_167 rfl ?_
            refine mx_istore dM_backward_171 (Nat.le_of_ble_eq_true rfl) rfl ?_
            first
              | (rw [h146] at h158; exact absurd h158 (by decide))
              | (rw [show rBB k v = true from by simp [rBB, h146, h152, h158, h163]] at h; exact h)
              | (rw [show rBB k v = false from by simp [rBB, h146, h152, h158, h163]] at h; exact h)
              | (rw [h146] at h158; exact absurd h158 (by decide))
  have h2 : ∀ (z o : Bool) (v k : Int32) (M : Nat → Int32), tB 40 M → Q (.inl (some (.int (i01 (!(z && o)))))) (rp thr cnt (tI I (rBt I g (rBa k v) (rBb k v) (s.1, M)))) → mx_W mx_K mT mCl jM_backward (mR 1 23) 120 [.ref 0, .int (nI g), .int (i01 z), .int (i01 o), .int (v), .int (k), .retAddr 0, .retAddr 0, .retAddr 0] [] (rp thr cnt (tI I (s.1, M))) Q := by
    intro z o v k M hM hq
    have h := h3 z o v k (rBa k v) M hM hq
    refine mx_iload dM_backward_120 rfl ?_
    refine mx_iconst (2) dM_backward_122 (by decide) ?_
    refine mx_icmp_eq 132 dM_backward_123 rfl (fun h123 => ?_) (fun h123 => ?_)
    · refine mx_iload dM_backward_132 rfl ?_
      refine mx_goto 141 dM_backward_134 rfl ?_
      refine mx_istore dM_backward_141 (Nat.le_of_ble_eq_true rfl) rfl ?_
      first
        | (rw [show rBa k v = v from if_pos h123] at h; exact h)
        | (rw [show rBa k v = 1 - v from (if_neg h123).trans (if_pos h129)] at h; exact h)
        | (rw [show rBa k v = v from (if_neg h123).trans (if_neg h129)] at h; exact h)
    · refine mx_iload dM_backward_126 rfl ?_
      refine mx_iconst (1) dM_backward_128 (by decide) ?_
      refine mx_icmp_eq 137 dM_backward_129 rfl (fun h129 => ?_) (fun h129 => ?_)
      · refine mx_iconst (1) dM_backward_137 (by decide) ?_
        refine mx_iload dM_backward_138 rfl ?_
        refine mx_isub dM_backward_140 ?_
        refine mx_istore dM_backward_141 (Nat.le_of_ble_eq_true rfl) rfl ?_
        first
          | (rw [show rBa k v = v from if_pos h123] at h; exact h)
          | (rw [show rBa k v = 1 - v from (if_neg h123).trans (if_pos h129)] at h; exact h)
          | (rw [show rBa k v = v from (if_neg h123).trans (if_neg h129)] at h; exact h)
      · refine mx_iload dM_backward_132 rfl ?_
        refine mx_goto 141 dM_backward_134 rfl ?_
        refine mx_istore dM_backward_141 (Nat.le_of_ble_eq_true rfl) rfl ?_
        first
          | (rw [show rBa k v = v from if_pos h123] at h; exact h)
          | (rw [show rBa k v = 1 - v from (if_neg h123).trans (if_pos h129)] at h; exact h)
          | (rw [show rBa k v = v from (if_neg h123).trans (if_neg h129)] at h; exact h)
  have h1 : ∀ (z o : Bool) (M : Nat → Int32), tB 40 M → Q (.inl (some (.int (i01 (!(z && o)))))) (rp thr cnt (tI I (rBt I g (rBa (I 1 g) (rBv z o)) (rBb (I 1 g) (rBv z o)) (s.1, M)))) → mx_W mx_K mT mCl jM_backward (mR 1 23) 93 [.ref 0, .int (nI g), .int (i01 z), .int (i01 o), .int (nI 27), .retAddr 0, .retAddr 0, .retAddr 0, .retAddr 0] [] (rp thr cnt (tI I (s.1, M))) Q := by
    intro z o M hM hq
    have h := h2 z o (rBv z o) (I 1 g) M hM hq
    refine mx_iload_n dM_backward_93 rfl ?_
    refine mx_if_eq 101 dM_backward_94 rfl (fun h94 => ?_) (fun h94 => ?_)
    · refine mx_iload_n dM_backward_101 rfl ?_
      refine mx_if_eq 109 dM_backward_102 rfl (fun h102 => ?_) (fun h102 => ?_)
      · refine mx_iconst (2) dM_backward_109 (by decide) ?_
        refine mx_istore dM_backward_110 (Nat.le_of_ble_eq_true rfl) rfl ?_
        refine mx_aload_n dM_backward_112 rfl ?_
        refine mx_get 8 2 dM_backward_113 fgM_7 rfl rfl ?_
        refine mx_iload_n dM_backward_116 rfl ?_
        refine mx_iald dM_backward_117 rfl (vp_in_nI (by omega) (by decide)) ?_
        rw [nI_clamp (by omega), tI_ne (by decide) (by decide)]
        refine mx_istore dM_backward_118 (Nat.le_of_ble_eq_true rfl) rfl ?_
        first
          | (rw [show rBv z o = 1 from if_pos (i01_nz h94)] at h; exact h)
          | (rw [show rBv z o = 0 from by rw [i01_z h94, i01_nz h102]; rfl] at h; exact h)
          | (rw [show rBv z o = 2 from by rw [i01_z h94, i01_z h102]; rfl] at h; exact h)
      · refine mx_iconst (0) dM_backward_105 (by decide) ?_
        refine mx_goto 110 dM_backward_106 rfl ?_
        refine mx_istore dM_backward_110 (Nat.le_of_ble_eq_true rfl) rfl ?_
        refine mx_aload_n dM_backward_112 rfl ?_
        refine mx_get 8 2 dM_backward_113 fgM_7 rfl rfl ?_
        refine mx_iload_n dM_backward_116 rfl ?_
        refine mx_iald dM_backward_117 rfl (vp_in_nI (by omega) (by decide)) ?_
        rw [nI_clamp (by omega), tI_ne (by decide) (by decide)]
        refine mx_istore dM_backward_118 (Nat.le_of_ble_eq_true rfl) rfl ?_
        first
          | (rw [show rBv z o = 1 from if_pos (i01_nz h94)] at h; exact h)
          | (rw [show rBv z o = 0 from by rw [i01_z h94, i01_nz h102]; rfl] at h; exact h)
          | (rw [show rBv z o = 2 from by rw [i01_z h94, i01_z h102]; rfl] at h; exact h)
    · refine mx_iconst (1) dM_backward_97 (by decide) ?_
      refine mx_goto 110 dM_backward_98 rfl ?_
      refine mx_istore dM_backward_110 (Nat.le_of_ble_eq_true rfl) rfl ?_
      refine mx_aload_n dM_backward_112 rfl ?_
      refine mx_get 8 2 dM_backward_113 fgM_7 rfl rfl ?_
      refine mx_iload_n dM_backward_116 rfl ?_
      refine mx_iald dM_backward_117 rfl (vp_in_nI (by omega) (by decide)) ?_
      rw [nI_clamp (by omega), tI_ne (by decide) (by decide)]
      refine mx_istore dM_backward_118 (Nat.le_of_ble_eq_true rfl) rfl ?_
      first
        | (rw [show rBv z o = 1 from if_pos (i01_nz h94)] at h; exact h)
        | (rw [show rBv z o = 0 from by rw [i01_z h94, i01_nz h102]; rfl] at h; exact h)
        | (rw [show rBv z o = 2 from by rw [i01_z h94, i01_z h102]; rfl] at h; exact h)
  have hl : ∀ i, i ≤ 27 → mx_W mx_K mT mCl jM_backward (mR 1 23) 7 [.ref 0, .int (nI g), .int (i01 (lp (rBw I g s.1) i (s.2, false, false)).2.1), .int (i01 (lp (rBw I g s.1) i (s.2, false, false)).2.2), .int (nI i), .retAddr 0, .retAddr 0, .retAddr 0, .retAddr 0] [] (rp thr cnt (tI I (s.1, (lp (rBw I g s.1) i (s.2, false, false)).1))) Q := by
    refine lp_down ?_ ?_
    · refine mx_iload dM_backward_7 rfl ?_
      refine mx_bipush (27) dM_backward_9 (by decide) ?_
      refine mx_icmp_ge 93 dM_backward_11 rfl (fun h11 => ?_) (fun h11 => ?_)
      rotate_left
      · exact absurd (show (27 : Int32) ≤ nI 27 by decide) h11
      have h := h1 (rBq I g s).2.1 (rBq I g s).2.2 (rBq I g s).1 hbq hQ
      unfold rBq at h
      exact h
    · intro i hi ih
      have hk : (lp (rBw I g s.1) i (s.2, false, false)).1 i = s.2 i := rBw_keep i i (Nat.le_refl _)
      have ih : mx_W mx_K mT mCl jM_backward (mR 1 23) 7 [.ref 0, .int (nI g), .int (i01 (rBw I g s.1 i (lp (rBw I g s.1) i (s.2, false, false))).2.1), .int (i01 (rBw I g s.1 i (lp (rBw I g s.1) i (s.2, false, false))).2.2), .int (nI (i + 1)), .retAddr 0, .retAddr 0, .retAddr 0, .retAddr 0] [] (rp thr cnt (tI I (s.1, (rBw I g s.1 i (lp (rBw I g s.1) i (s.2, false, false))).1))) Q := ih
      generalize lp (rBw I g s.1) i (s.2, false, false) = t at ih hk ⊢
      unfold rBw at ih
      refine mx_iload dM_backward_7 rfl ?_
      refine mx_bipush (27) dM_backward_9 (by decide) ?_
      refine mx_icmp_ge 93 dM_backward_11 rfl (fun h11 => ?_) (fun h11 => ?_)
      · exact absurd h11 (nI_ge (b := 27) hi (by decide))
      refine mx_aload_n dM_backward_14 rfl ?_
      refine mx_get 8 4 dM_backward_15 fgM_16 rfl rfl ?_
      refine mx_iload dM_backward_18 rfl ?_
      refine mx_iald dM_backward_20 rfl (vp_in_nI (by omega) (by decide)) ?_
      rw [nI_clamp (by omega), tI_ne (by decide) (by decide)]
      refine mx_iload_n dM_backward_21 rfl ?_
      refine mx_icmp_ne 87 dM_backward_22 rfl (fun h22 => ?_) (fun h22 => ?_)
      · rw [if_neg h22] at ih
        refine mx_iinc dM_backward_87 rfl (mx_inc _) (Nat.le_of_ble_eq_true rfl) rfl ?_
        refine mx_goto 7 dM_backward_90 rfl ?_
        exact ih
      · rw [if_pos h22] at ih
        obtain ⟨m, hm, em⟩ := tB_pos hb (w := i) hi (rCB_at hc hi h22)
        rw [hk, em, nI_s1, nI_clamp (by omega)] at ih
        refine mx_aload_n dM_backward_25 rfl ?_
        refine mx_get 8 9 dM_backward_26 fgM_31 rfl rfl ?_
        refine mx_iload dM_backward_29 rfl ?_
        refine mx_dup2 dM_backward_31 rfl rfl ?_
        refine mx_iald dM_backward_32 rfl (vp_in_nI (by omega) (by decide)) ?_
        rw [nI_clamp (by omega), tI_8]
        simp only [hk]
        rw [em]
        refine mx_iconst (1) dM_backward_33 (by decide) ?_
        refine mx_isub dM_backward_34 ?_
        rw [nI_s1]
        refine mx_iast dM_backward_35 rfl (vp_in_nI (by omega) (by decide)) ?_
        rw [nI_clamp (by omega)]
        refine mx_eqs rfl rfl rfl (rp_8 _) ?_
        rw [tI_8, tI_s8]
        refine mx_aload_n dM_backward_36 rfl ?_
        refine mx_get 8 8 dM_backward_37 fgM_28 rfl rfl ?_
        refine mx_bipush (40) dM_backward_40 (by decide) ?_
        refine mx_iload dM_backward_42 rfl ?_
        refine mx_imul dM_backward_44 ?_
        refine mx_aload_n dM_backward_45 rfl ?_
        refine mx_get 8 9 dM_backward_46 fgM_31 rfl rfl ?_
        refine mx_iload dM_backward_49 rfl ?_
        refine mx_iald dM_backward_51 rfl (vp_in_nI (by omega) (by decide)) ?_
        rw [nI_clamp (by omega), tI_8]
        simp only [pk_us]
        refine mx_iadd dM_backward_52 ?_
        rw [show (40 : Int32) = nI 40 from rfl, pk_mul, nI_add]
        refine mx_iald dM_backward_53 rfl (vp_in_nI (by omega) (by decide)) ?_
        rw [nI_clamp (by omega), tI_7]
        try simp only []
        refine mx_istore dM_backward_54 (Nat.le_of_ble_eq_true rfl) rfl ?_
        refine mx_iload_n dM_backward_56 rfl ?_
        refine mx_if_ne 65 dM_backward_57 rfl (fun h57 => ?_) (fun h57 => ?_)
        · refine mx_iconst (1) dM_backward_65 (by decide) ?_
          refine mx_goto 70 dM_backward_66 rfl ?_
          refine mx_istore_n dM_backward_70 (Nat.le_of_ble_eq_true rfl) rfl ?_
          refine mx_iload_n dM_backward_71 rfl ?_
          refine mx_if_ne 81 dM_backward_72 rfl (fun h72 => ?_) (fun h72 => ?_)
          · refine mx_iconst (1) dM_backward_81 (by decide) ?_
            refine mx_goto 86 dM_backward_82 rfl ?_
            refine mx_istore_n dM_backward_86 (Nat.le_of_ble_eq_true rfl) rfl ?_
            first | rw [or_1a h57] at ih | rw [or_1b h62] at ih | rw [or_0 h57 h62] at ih
            first | rw [or_1a h72] at ih | rw [or_1b h78] at ih | rw [or_0 h72 h78] at ih
            refine mx_drop 5 ?_
            refine mx_iinc dM_backward_87 rfl (mx_inc _) (Nat.le_of_ble_eq_true rfl) rfl ?_
            refine mx_goto 7 dM_backward_90 rfl ?_
            exact ih
          · refine mx_iload dM_backward_75 rfl ?_
            refine mx_iconst (1) dM_backward_77 (by decide) ?_
            refine mx_icmp_ne 85 dM_backward_78 rfl (fun h78 => ?_) (fun h78 => ?_)
            · refine mx_iconst (0) dM_backward_85 (by decide) ?_
              refine mx_istore_n dM_backward_86 (Nat.le_of_ble_eq_true rfl) rfl ?_
              first | rw [or_1a h57] at ih | rw [or_1b h62] at ih | rw [or_0 h57 h62] at ih
              first | rw [or_1a h72] at ih | rw [or_1b h78] at ih | rw [or_0 h72 h78] at ih
              refine mx_drop 5 ?_
              refine mx_iinc dM_backward_87 rfl (mx_inc _) (Nat.le_of_ble_eq_true rfl) rfl ?_
              refine mx_goto 7 dM_backward_90 rfl ?_
              exact ih
            · refine mx_iconst (1) dM_backward_81 (by decide) ?_
              refine mx_goto 86 dM_backward_82 rfl ?_
              refine mx_istore_n dM_backward_86 (Nat.le_of_ble_eq_true rfl) rfl ?_
              first | rw [or_1a h57] at ih | rw [or_1b h62] at ih | rw [or_0 h57 h62] at ih
              first | rw [or_1a h72] at ih | rw [or_1b h78] at ih | rw [or_0 h72 h78] at ih
              refine mx_drop 5 ?_
              refine mx_iinc dM_backward_87 rfl (mx_inc _) (Nat.le_of_ble_eq_true rfl) rfl ?_
              refine mx_goto 7 dM_backward_90 rfl ?_
              exact ih
        · refine mx_iload dM_backward_60 rfl ?_
          refine mx_if_ne 69 dM_backward_62 rfl (fun h62 => ?_) (fun h62 => ?_)
          · refine mx_iconst (0) dM_backward_69 (by decide) ?_
            refine mx_istore_n dM_backward_70 (Nat.le_of_ble_eq_true rfl) rfl ?_
            refine mx_iload_n dM_backward_71 rfl ?_
            refine mx_if_ne 81 dM_backward_72 rfl (fun h72 => ?_) (fun h72 => ?_)
            · refine mx_iconst (1) dM_backward_81 (by decide) ?_
              refine mx_goto 86 dM_backward_82 rfl ?_
              refine mx_istore_n dM_backward_86 (Nat.le_of_ble_eq_true rfl) rfl ?_
              first | rw [or_1a h57] at ih | rw [or_1b h62] at ih | rw [or_0 h57 h62] at ih
              first | rw [or_1a h72] at ih | rw [or_1b h78] at ih | rw [or_0 h72 h78] at ih
              refine mx_drop 5 ?_
              refine mx_iinc dM_backward_87 rfl (mx_inc _) (Nat.le_of_ble_eq_true rfl) rfl ?_
              refine mx_goto 7 dM_backward_90 rfl ?_
              exact ih
            · refine mx_iload dM_backward_75 rfl ?_
              refine mx_iconst (1) dM_backward_77 (by decide) ?_
              refine mx_icmp_ne 85 dM_backward_78 rfl (fun h78 => ?_) (fun h78 => ?_)
              · refine mx_iconst (0) dM_backward_85 (by decide) ?_
                refine mx_istore_n dM_backward_86 (Nat.le_of_ble_eq_true rfl) rfl ?_
                first | rw [or_1a h57] at ih | rw [or_1b h62] at ih | rw [or_0 h57 h62] at ih
                first | rw [or_1a h72] at ih | rw [or_1b h78] at ih | rw [or_0 h72 h78] at ih
                refine mx_drop 5 ?_
                refine mx_iinc dM_backward_87 rfl (mx_inc _) (Nat.le_of_ble_eq_true rfl) rfl ?_
                refine mx_goto 7 dM_backward_90 rfl ?_
                exact ih
              · refine mx_iconst (1) dM_backward_81 (by decide) ?_
                refine mx_goto 86 dM_backward_82 rfl ?_
                refine mx_istore_n dM_backward_86 (Nat.le_of_ble_eq_true rfl) rfl ?_
                first | rw [or_1a h57] at ih | rw [or_1b h62] at ih | rw [or_0 h57 h62] at ih
                first | rw [or_1a h72] at ih | rw [or_1b h78] at ih | rw [or_0 h72 h78] at ih
                refine mx_drop 5 ?_
                refine mx_iinc dM_backward_87 rfl (mx_inc _) (Nat.le_of_ble_eq_true rfl) rfl ?_
                refine mx_goto 7 dM_backward_90 rfl ?_
                exact ih
          · refine mx_iconst (1) dM_backward_65 (by decide) ?_
            refine mx_goto 70 dM_backward_66 rfl ?_
            refine mx_istore_n dM_backward_70 (Nat.le_of_ble_eq_true rfl) rfl ?_
            refine mx_iload_n dM_backward_71 rfl ?_
            refine mx_if_ne 81 dM_backward_72 rfl (fun h72 => ?_) (fun h72 => ?_)
            · refine mx_iconst (1) dM_backward_81 (by decide) ?_
              refine mx_goto 86 dM_backward_82 rfl ?_
              refine mx_istore_n dM_backward_86 (Nat.le_of_ble_eq_true rfl) rfl ?_
              first | rw [or_1a h57] at ih | rw [or_1b h62] at ih | rw [or_0 h57 h62] at ih
              first | rw [or_1a h72] at ih | rw [or_1b h78] at ih | rw [or_0 h72 h78] at ih
              refine mx_drop 5 ?_
              refine mx_iinc dM_backward_87 rfl (mx_inc _) (Nat.le_of_ble_eq_true rfl) rfl ?_
              refine mx_goto 7 dM_backward_90 rfl ?_
              exact ih
            · refine mx_iload dM_backward_75 rfl ?_
              refine mx_iconst (1) dM_backward_77 (by decide) ?_
              refine mx_icmp_ne 85 dM_backward_78 rfl (fun h78 => ?_) (fun h78 => ?_)
              · refine mx_iconst (0) dM_backward_85 (by decide) ?_
                refine mx_istore_n dM_backward_86 (Nat.le_of_ble_eq_true rfl) rfl ?_
                first | rw [or_1a h57] at ih | rw [or_1b h62] at ih | rw [or_0 h57 h62] at ih
                first | rw [or_1a h72] at ih | rw [or_1b h78] at ih | rw [or_0 h72 h78] at ih
                refine mx_drop 5 ?_
                refine mx_iinc dM_backward_87 rfl (mx_inc _) (Nat.le_of_ble_eq_true rfl) rfl ?_
                refine mx_goto 7 dM_backward_90 rfl ?_
                exact ih
              · refine mx_iconst (1) dM_backward_81 (by decide) ?_
                refine mx_goto 86 dM_backward_82 rfl ?_
                refine mx_istore_n dM_backward_86 (Nat.le_of_ble_eq_true rfl) rfl ?_
                first | rw [or_1a h57] at ih | rw [or_1b h62] at ih | rw [or_0 h57 h62] at ih
                first | rw [or_1a h72] at ih | rw [or_1b h78] at ih | rw [or_0 h72 h78] at ih
                refine mx_drop 5 ?_
                refine mx_iinc dM_backward_87 rfl (mx_inc _) (Nat.le_of_ble_eq_true rfl) rfl ?_
                refine mx_goto 7 dM_backward_90 rfl ?_
                exact ih
  refine mx_iconst (0) dM_backward_0 (by decide) ?_
  refine mx_istore_n dM_backward_1 (Nat.le_of_ble_eq_true rfl) rfl ?_
  refine mx_iconst (0) dM_backward_2 (by decide) ?_
  refine mx_istore_n dM_backward_3 (Nat.le_of_ble_eq_true rfl) rfl ?_
  refine mx_iconst (0) dM_backward_4 (by decide) ?_
  refine mx_istore dM_backward_5 (Nat.le_of_ble_eq_true rfl) rfl ?_
  exact hl 0 (Nat.zero_le _)
