/-! The reference: made, push, pull, canForward, canBackward. -/
def rMade (k a b : Int32) : Int32 := if k = 0 then a else if k = 1 then (if a = 2 then 2 else 1 - a) else if k = 2 then (if a = 0 then 0 else if b = 0 then 0 else if a = 1 then (if b = 1 then 1 else 2) else 2) else if k = 3 then (if a = 1 then 1 else if b = 1 then 1 else if a = 0 then (if b = 0 then 0 else 2) else 2) else (if a = 2 then 2 else if b = 2 then 2 else if a = b then 0 else 1)
theorem cM_made {hp : List va_E} {Q : mx_O → List va_E → Prop} {k x y : Int32} (hQ : Q (.inl (some (.int (rMade k x y)))) (hp)) : mx_W mx_K mT mCl jM_made (mR 0 0) 0 [.int k, .int x, .int y] [] hp Q := by
  refine mx_iload_n dM_made_0 rfl ?_
  refine mx_sw4 32 34 47 75 103 dM_made_1 rfl rfl rfl rfl rfl (fun e0 => ?_) (fun e0 => ?_) (fun e0 => ?_) (fun e0 => ?_) (fun e0 e1 e2 e3 => ?_)
  · refine mx_iload_n dM_made_32 rfl ?_
    refine mx_iret dM_made_33 rfl rfl ?_
    first | (simpa [rMade, e0] using hQ; done) | (unfold rMade at hQ; simp_all; done)
  · refine mx_iload_n dM_made_34 rfl ?_
    refine mx_iconst (2) dM_made_35 (by decide) ?_
    refine mx_icmp_ne 43 dM_made_36 rfl (fun h36 => ?_) (fun h36 => ?_)
    · refine mx_iconst (1) dM_made_43 (by decide) ?_
      refine mx_iload_n dM_made_44 rfl ?_
      refine mx_isub dM_made_45 ?_
      refine mx_iret dM_made_46 rfl rfl ?_
      first | (simpa [rMade, e0, h36] using hQ; done) | (unfold rMade at hQ; simp_all; done)
    · refine mx_iconst (2) dM_made_39 (by decide) ?_
      refine mx_goto 46 dM_made_40 rfl ?_
      refine mx_iret dM_made_46 rfl rfl ?_
      first | (simpa [rMade, e0, h36] using hQ; done) | (unfold rMade at hQ; simp_all; done)
  · refine mx_iload_n dM_made_47 rfl ?_
    refine mx_if_eq 55 dM_made_48 rfl (fun h48 => ?_) (fun h48 => ?_)
    · refine mx_iconst (0) dM_made_55 (by decide) ?_
      refine mx_goto 74 dM_made_56 rfl ?_
      refine mx_iret dM_made_74 rfl rfl ?_
      first | (simpa [rMade, e0, h48] using hQ; done) | (unfold rMade at hQ; simp_all; done)
    · refine mx_iload_n dM_made_51 rfl ?_
      refine mx_if_ne 59 dM_made_52 rfl (fun h52 => ?_) (fun h52 => ?_)
      · refine mx_iload_n dM_made_59 rfl ?_
        refine mx_iconst (1) dM_made_60 (by decide) ?_
        refine mx_icmp_ne 73 dM_made_61 rfl (fun h61 => ?_) (fun h61 => ?_)
        · refine mx_iconst (2) dM_made_73 (by decide) ?_
          refine mx_iret dM_made_74 rfl rfl ?_
          first | (simpa [rMade, e0, h48, h52, h61] using hQ; done) | (unfold rMade at hQ; simp_all; done)
        · refine mx_iload_n dM_made_64 rfl ?_
          refine mx_iconst (1) dM_made_65 (by decide) ?_
          refine mx_icmp_ne 73 dM_made_66 rfl (fun h66 => ?_) (fun h66 => ?_)
          · refine mx_iconst (2) dM_made_73 (by decide) ?_
            refine mx_iret dM_made_74 rfl rfl ?_
            first | (simpa [rMade, e0, h48, h52, h61, h66] using hQ; done) | (unfold rMade at hQ; simp_all; done)
          · refine mx_iconst (1) dM_made_69 (by decide) ?_
            refine mx_goto 74 dM_made_70 rfl ?_
            refine mx_iret dM_made_74 rfl rfl ?_
            first | (simpa [rMade, e0, h48, h52, h61, h66] using hQ; done) | (unfold rMade at hQ; simp_all; done)
      · refine mx_iconst (0) dM_made_55 (by decide) ?_
        refine mx_goto 74 dM_made_56 rfl ?_
        refine mx_iret dM_made_74 rfl rfl ?_
        first | (simpa [rMade, e0, h48, h52] using hQ; done) | (unfold rMade at hQ; simp_all; done)
  · refine mx_iload_n dM_made_75 rfl ?_
    refine mx_iconst (1) dM_made_76 (by decide) ?_
    refine mx_icmp_eq 85 dM_made_77 rfl (fun h77 => ?_) (fun h77 => ?_)
    · refine mx_iconst (1) dM_made_85 (by decide) ?_
      refine mx_goto 102 dM_made_86 rfl ?_
      refine mx_iret dM_made_102 rfl rfl ?_
      first | (simpa [rMade, e0, h77] using hQ; done) | (unfold rMade at hQ; simp_all; done)
    · refine mx_iload_n dM_made_80 rfl ?_
      refine mx_iconst (1) dM_made_81 (by decide) ?_
      refine mx_icmp_ne 89 dM_made_82 rfl (fun h82 => ?_) (fun h82 => ?_)
      · refine mx_iload_n dM_made_89 rfl ?_
        refine mx_if_ne 101 dM_made_90 rfl (fun h90 => ?_) (fun h90 => ?_)
        · refine mx_iconst (2) dM_made_101 (by decide) ?_
          refine mx_iret dM_made_102 rfl rfl ?_
          first | (simpa [rMade, e0, h77, h82, h90] using hQ; done) | (unfold rMade at hQ; simp_all; done)
        · refine mx_iload_n dM_made_93 rfl ?_
          refine mx_if_ne 101 dM_made_94 rfl (fun h94 => ?_) (fun h94 => ?_)
          · refine mx_iconst (2) dM_made_101 (by decide) ?_
            refine mx_iret dM_made_102 rfl rfl ?_
            first | (simpa [rMade, e0, h77, h82, h90, h94] using hQ; done) | (unfold rMade at hQ; simp_all; done)
          · refine mx_iconst (0) dM_made_97 (by decide) ?_
            refine mx_goto 102 dM_made_98 rfl ?_
            refine mx_iret dM_made_102 rfl rfl ?_
            first | (simpa [rMade, e0, h77, h82, h90, h94] using hQ; done) | (unfold rMade at hQ; simp_all; done)
      · refine mx_iconst (1) dM_made_85 (by decide) ?_
        refine mx_goto 102 dM_made_86 rfl ?_
        refine mx_iret dM_made_102 rfl rfl ?_
        first | (simpa [rMade, e0, h77, h82] using hQ; done) | (unfold rMade at hQ; simp_all; done)
  · refine mx_iload_n dM_made_103 rfl ?_
    refine mx_iconst (2) dM_made_104 (by decide) ?_
    refine mx_icmp_eq 113 dM_made_105 rfl (fun h105 => ?_) (fun h105 => ?_)
    · refine mx_iconst (2) dM_made_113 (by decide) ?_
      refine mx_goto 127 dM_made_114 rfl ?_
      refine mx_iret dM_made_127 rfl rfl ?_
      first | (simpa [rMade, e0, e1, e2, e3, h105] using hQ; done) | (unfold rMade at hQ; simp_all; done)
    · refine mx_iload_n dM_made_108 rfl ?_
      refine mx_iconst (2) dM_made_109 (by decide) ?_
      refine mx_icmp_ne 117 dM_made_110 rfl (fun h110 => ?_) (fun h110 => ?_)
      · refine mx_iload_n dM_made_117 rfl ?_
        refine mx_iload_n dM_made_118 rfl ?_
        refine mx_icmp_ne 126 dM_made_119 rfl (fun h119 => ?_) (fun h119 => ?_)
        · refine mx_iconst (1) dM_made_126 (by decide) ?_
          refine mx_iret dM_made_127 rfl rfl ?_
          first | (simpa [rMade, e0, e1, e2, e3, h105, h110, h119] using hQ; done) | (unfold rMade at hQ; simp_all; done)
        · refine mx_iconst (0) dM_made_122 (by decide) ?_
          refine mx_goto 127 dM_made_123 rfl ?_
          refine mx_iret dM_made_127 rfl rfl ?_
          first | (simpa [rMade, e0, e1, e2, e3, h105, h110, h119] using hQ; done) | (unfold rMade at hQ; simp_all; done)
      · refine mx_iconst (2) dM_made_113 (by decide) ?_
        refine mx_goto 127 dM_made_114 rfl ?_
        refine mx_iret dM_made_127 rfl rfl ?_
        first | (simpa [rMade, e0, e1, e2, e3, h105, h110] using hQ; done) | (unfold rMade at hQ; simp_all; done)
/-- the run of wire i moved one place up over m places, v in front -/
def shU (i m : Nat) (T : Nat → Int32) : Nat → Int32 := fun j => if 40 * i < j ∧ j ≤ 40 * i + m then T (j - 1) else T j
def shUk (i m k : Nat) (T : Nat → Int32) : Nat → Int32 := fun j => if 40 * i + k < j ∧ j ≤ 40 * i + m then T (j - 1) else T j
theorem shUk_0 (i m : Nat) (T : Nat → Int32) : shUk i m 0 T = shU i m T := rfl
theorem shUk_m (i m : Nat) (T : Nat → Int32) : shUk i m m T = T := by
  funext j
  unfold shUk
  rw [if_neg (by omega)]
theorem shUk_s {i m k : Nat} (T : Nat → Int32) (h : k + 1 ≤ m) : upd (shUk i m (k + 1) T) (40 * i + (k + 1)) (shUk i m (k + 1) T (40 * i + (k + 1) - 1)) = shUk i m k T := by
  funext j
  unfold upd
  by_cases e : j = 40 * i + (k + 1)
  · rw [if_pos e]
    subst e
    unfold shUk
    rw [if_neg (by omega), if_pos (by omega)]
  · rw [if_neg e]
    unfold shUk
    by_cases h2 : 40 * i + (k + 1) < j ∧ j ≤ 40 * i + m
    · rw [if_pos h2, if_pos (by omega)]
    · rw [if_neg h2, if_neg (by omega)]
def shD (i m : Nat) (T : Nat → Int32) : Nat → Int32 := fun j => if 40 * i ≤ j ∧ j < 40 * i + m then T (j + 1) else T j
theorem shD_0 (i : Nat) (T : Nat → Int32) : shD i 0 T = T := by
  funext j
  unfold shD
  rw [if_neg (by omega)]
theorem shD_s (i k : Nat) (T : Nat → Int32) : upd (shD i k T) (40 * i + k) (shD i k T (40 * i + k + 1)) = shD i (k + 1) T := by
  funext j
  unfold upd
  by_cases e : j = 40 * i + k
  · rw [if_pos e]
    subst e
    unfold shD
    rw [if_neg (by omega), if_pos (by omega)]
  · rw [if_neg e]
    unfold shD
    by_cases h2 : 40 * i ≤ j ∧ j < 40 * i + k
    · rw [if_pos h2, if_pos (by omega)]
    · rw [if_neg h2, if_neg (by omega)]
/-- tried and triedMany -/
abbrev tS : Type := (Nat → Int32) × (Nat → Int32)
def rPsh (i : Nat) (v : Int32) (s : tS) : tS := (upd (shU i (s.2 i).toNatClampNeg s.1) (40 * i) v, upd s.2 i (s.2 i + 1))
def rPul (i : Nat) (s : tS) : tS := (shD i ((s.2 i).toNatClampNeg - 1) s.1, upd s.2 i (s.2 i - 1))
/-- the cells with these two -/
def tI (I : Nat → Nat → Int32) (s : tS) : Nat → Nat → Int32 := upI (upI I 7 s.1) 8 s.2
theorem tI_7 (I : Nat → Nat → Int32) (s : tS) : tI I s 7 = s.1 := rfl
theorem tI_8 (I : Nat → Nat → Int32) (s : tS) : tI I s 8 = s.2 := rfl
theorem tI_ne {I : Nat → Nat → Int32} {s : tS} {j : Nat} (h7 : j ≠ 7) (h8 : j ≠ 8) : tI I s j = I j := by
  unfold tI
  rw [upI_ne _ _ h8, upI_ne _ _ h7]
theorem tI_s7 (I : Nat → Nat → Int32) (s : tS) (f : Nat → Int32) : upI (tI I s) 7 f = tI I (f, s.2) := by
  unfold tI
  rw [upI_comm _ _ _ (by decide : (8 : Nat) ≠ 7), upI_upI]
theorem tI_s8 (I : Nat → Nat → Int32) (s : tS) (f : Nat → Int32) : upI (tI I s) 8 f = tI I (s.1, f) := by
  unfold tI
  rw [upI_upI]
theorem cM_push {thr cnt : Int32} {I : Nat → Nat → Int32} {Q : mx_O → List va_E → Prop} {s : tS} {i m : Nat} {v : Int32} (hi : i < 27) (hm : m < 40) (em : s.2 i = nI m) (hQ : Q (.inl none) (rp thr cnt (tI I (rPsh i v s)))) : mx_W mx_K mT mCl jM_push (mR 0 0) 0 [.ref 0, .int (nI i), .int v, .retAddr 0] [] (rp thr cnt (tI I (s))) Q := by
  unfold rPsh at hQ
  rw [em, nI_clamp (by omega)] at hQ
  have hend : mx_W mx_K mT mCl jM_push (mR 0 0) 41 [.ref 0, .int (nI i), .int v, .int (nI 0)] [] (rp thr cnt (tI I (shU i m s.1, s.2))) Q := by
    refine mx_aload_n dM_push_41 rfl ?_
    refine mx_get 8 8 dM_push_42 fgM_28 rfl rfl ?_
    refine mx_bipush (40) dM_push_45 (by decide) ?_
    refine mx_iload_n dM_push_47 rfl ?_
    refine mx_imul dM_push_48 ?_
    rw [show (40 : Int32) = nI 40 from rfl, pk_mul]
    refine mx_iload_n dM_push_49 rfl ?_
    refine mx_iast dM_push_50 rfl (vp_in_nI (by omega) (by decide)) ?_
    rw [nI_clamp (by omega)]
    refine mx_eqs rfl rfl rfl (rp_7 _) ?_
    rw [tI_7, tI_s7]
    refine mx_aload_n dM_push_51 rfl ?_
    refine mx_get 8 9 dM_push_52 fgM_31 rfl rfl ?_
    refine mx_iload_n dM_push_55 rfl ?_
    refine mx_dup2 dM_push_56 rfl rfl ?_
    refine mx_iald dM_push_57 rfl (vp_in_nI (by omega) (by decide)) ?_
    rw [nI_clamp (by omega), tI_8, em]
    refine mx_iconst (1) dM_push_58 (by decide) ?_
    refine mx_iadd dM_push_59 ?_
    refine mx_iast dM_push_60 rfl (vp_in_nI (by omega) (by decide)) ?_
    refine mx_vret dM_push_61 rfl ?_
    rw [nI_clamp (by omega), rp_8, tI_8, tI_s8]
    exact hQ
  have hl : ∀ k, k ≤ m → mx_W mx_K mT mCl jM_push (mR 0 0) 7 [.ref 0, .int (nI i), .int v, .int (nI k)] [] (rp thr cnt (tI I (shUk i m k s.1, s.2))) Q := by
    intro k
    induction k with
    | zero =>
      intro _
      refine mx_iload_n dM_push_7 rfl ?_
      refine mx_if_le 41 dM_push_8 rfl (fun h8 => ?_) (fun h8 => ?_)
      rotate_left
      · exact absurd (show nI 0 ≤ 0 by decide) h8
      exact hend
    | succ k ihk =>
      intro hk
      have hx := ihk (by omega)
      rw [← shUk_s s.1 hk] at hx
      generalize shUk i m (k + 1) s.1 = T at hx ⊢
      refine mx_iload_n dM_push_7 rfl ?_
      refine mx_if_le 41 dM_push_8 rfl (fun h8 => ?_) (fun h8 => ?_)
      · exact absurd h8 (nI_ge (b := k + 1) (a := 0) (by omega) (by omega))
      refine mx_aload_n dM_push_11 rfl ?_
      refine mx_get 8 8 dM_push_12 fgM_28 rfl rfl ?_
      refine mx_bipush (40) dM_push_15 (by decide) ?_
      refine mx_iload_n dM_push_17 rfl ?_
      refine mx_imul dM_push_18 ?_
      refine mx_iload_n dM_push_19 rfl ?_
      refine mx_iadd dM_push_20 ?_
      rw [show (40 : Int32) = nI 40 from rfl, pk_mul, nI_add]
      refine mx_aload_n dM_push_21 rfl ?_
      refine mx_get 8 8 dM_push_22 fgM_28 rfl rfl ?_
      refine mx_bipush (40) dM_push_25 (by decide) ?_
      refine mx_iload_n dM_push_27 rfl ?_
      refine mx_imul dM_push_28 ?_
      refine mx_iload_n dM_push_29 rfl ?_
      refine mx_iadd dM_push_30 ?_
      rw [show (40 : Int32) = nI 40 from rfl, pk_mul, nI_add]
      refine mx_iconst (1) dM_push_31 (by decide) ?_
      refine mx_isub dM_push_32 ?_
      rw [show (1 : Int32) = nI 1 from rfl, pk_sub (by omega)]
      refine mx_iald dM_push_33 rfl (vp_in_nI (by omega) (by decide)) ?_
      rw [nI_clamp (by omega), tI_7]
      refine mx_iast dM_push_34 rfl (vp_in_nI (by omega) (by decide)) ?_
      rw [nI_clamp (by omega)]
      refine mx_eqs rfl rfl rfl (rp_7 _) ?_
      rw [tI_7, tI_s7]
      refine mx_iinc dM_push_35 rfl (mx_dec _) (Nat.le_of_ble_eq_true rfl) rfl ?_
      refine mx_goto 7 dM_push_38 rfl ?_
      exact hx
  refine mx_aload_n dM_push_0 rfl ?_
  refine mx_get 8 9 dM_push_1 fgM_31 rfl rfl ?_
  refine mx_iload_n dM_push_4 rfl ?_
  refine mx_iald dM_push_5 rfl (vp_in_nI (by omega) (by decide)) ?_
  rw [nI_clamp (by omega), tI_8, em]
  refine mx_istore_n dM_push_6 (Nat.le_of_ble_eq_true rfl) rfl ?_
  have h0 := hl m (Nat.le_refl _)
  rw [shUk_m] at h0
  exact h0
theorem cM_pull {thr cnt : Int32} {I : Nat → Nat → Int32} {Q : mx_O → List va_E → Prop} {s : tS} {i m : Nat} (hi : i < 27) (hm : m < 40) (em : s.2 i = nI (m + 1)) (hQ : Q (.inl (some (.int (s.1 (40 * i))))) (rp thr cnt (tI I (rPul i s)))) : mx_W mx_K mT mCl jM_pull (mR 0 0) 0 [.ref 0, .int (nI i), .retAddr 0, .retAddr 0] [] (rp thr cnt (tI I (s))) Q := by
  unfold rPul at hQ
  have e1 : s.2 i - 1 = nI m := by rw [em, show (1 : Int32) = nI 1 from rfl, pk_sub (by omega)]; rfl
  rw [e1, em, nI_clamp (by omega), Nat.add_sub_cancel] at hQ
  have hl : ∀ k, k ≤ m → mx_W mx_K mT mCl jM_pull (mR 0 0) 22 [.ref 0, .int (nI i), .int (s.1 (40 * i)), .int (nI k)] [] (rp thr cnt (tI I (shD i k s.1, upd s.2 i (nI m)))) Q := by
    refine lp_down ?_ ?_
    · refine mx_iload_n dM_pull_22 rfl ?_
      refine mx_aload_n dM_pull_23 rfl ?_
      refine mx_get 8 9 dM_pull_24 fgM_31 rfl rfl ?_
      refine mx_iload_n dM_pull_27 rfl ?_
      refine mx_iald dM_pull_28 rfl (vp_in_nI (by omega) (by decide)) ?_
      rw [nI_clamp (by omega), tI_8]
      simp only [pk_us]
      refine mx_icmp_ge 62 dM_pull_29 rfl (fun h29 => ?_) (fun h29 => ?_)
      rotate_left
      · exact absurd (nI_le (Nat.le_refl _) (by omega)) h29
      refine mx_iload_n dM_pull_62 rfl ?_
      refine mx_iret dM_pull_63 rfl rfl ?_
      exact hQ
    · intro k hk hx
      rw [← shD_s i k s.1] at hx
      generalize shD i k s.1 = T at hx ⊢
      refine mx_iload_n dM_pull_22 rfl ?_
      refine mx_aload_n dM_pull_23 rfl ?_
      refine mx_get 8 9 dM_pull_24 fgM_31 rfl rfl ?_
      refine mx_iload_n dM_pull_27 rfl ?_
      refine mx_iald dM_pull_28 rfl (vp_in_nI (by omega) (by decide)) ?_
      rw [nI_clamp (by omega), tI_8]
      simp only [pk_us]
      refine mx_icmp_ge 62 dM_pull_29 rfl (fun h29 => ?_) (fun h29 => ?_)
      · exact absurd h29 (nI_ge (by omega) (by omega))
      refine mx_aload_n dM_pull_32 rfl ?_
      refine mx_get 8 8 dM_pull_33 fgM_28 rfl rfl ?_
      refine mx_bipush (40) dM_pull_36 (by decide) ?_
      refine mx_iload_n dM_pull_38 rfl ?_
      refine mx_imul dM_pull_39 ?_
      refine mx_iload_n dM_pull_40 rfl ?_
      refine mx_iadd dM_pull_41 ?_
      rw [show (40 : Int32) = nI 40 from rfl, pk_mul, nI_add]
      refine mx_aload_n dM_pull_42 rfl ?_
      refine mx_get 8 8 dM_pull_43 fgM_28 rfl rfl ?_
      refine mx_bipush (40) dM_pull_46 (by decide) ?_
      refine mx_iload_n dM_pull_48 rfl ?_
      refine mx_imul dM_pull_49 ?_
      refine mx_iload_n dM_pull_50 rfl ?_
      refine mx_iadd dM_pull_51 ?_
      rw [show (40 : Int32) = nI 40 from rfl, pk_mul, nI_add]
      refine mx_iconst (1) dM_pull_52 (by decide) ?_
      refine mx_iadd dM_pull_53 ?_
      rw [← nI_succ]
      refine mx_iald dM_pull_54 rfl (vp_in_nI (by omega) (by decide)) ?_
      rw [nI_clamp (by omega), tI_7]
      refine mx_iast dM_pull_55 rfl (vp_in_nI (by omega) (by decide)) ?_
      rw [nI_clamp (by omega)]
      refine mx_eqs rfl rfl rfl (rp_7 _) ?_
      rw [tI_7, tI_s7]
      refine mx_iinc dM_pull_56 rfl (mx_inc _) (Nat.le_of_ble_eq_true rfl) rfl ?_
      refine mx_goto 22 dM_pull_59 rfl ?_
      exact hx
  refine mx_aload_n dM_pull_0 rfl ?_
  refine mx_get 8 8 dM_pull_1 fgM_28 rfl rfl ?_
  refine mx_bipush (40) dM_pull_4 (by decide) ?_
  refine mx_iload_n dM_pull_6 rfl ?_
  refine mx_imul dM_pull_7 ?_
  rw [show (40 : Int32) = nI 40 from rfl, pk_mul]
  refine mx_iald dM_pull_8 rfl (vp_in_nI (by omega) (by decide)) ?_
  rw [nI_clamp (by omega), tI_7]
  refine mx_istore_n dM_pull_9 (Nat.le_of_ble_eq_true rfl) rfl ?_
  refine mx_aload_n dM_pull_10 rfl ?_
  refine mx_get 8 9 dM_pull_11 fgM_31 rfl rfl ?_
  refine mx_iload_n dM_pull_14 rfl ?_
  refine mx_dup2 dM_pull_15 rfl rfl ?_
  refine mx_iald dM_pull_16 rfl (vp_in_nI (by omega) (by decide)) ?_
  rw [nI_clamp (by omega), tI_8]
  refine mx_iconst (1) dM_pull_17 (by decide) ?_
  refine mx_isub dM_pull_18 ?_
  rw [e1]
  refine mx_iast dM_pull_19 rfl (vp_in_nI (by omega) (by decide)) ?_
  rw [nI_clamp (by omega)]
  refine mx_eqs rfl rfl rfl (rp_8 _) ?_
  rw [tI_8, tI_s8]
  refine mx_iconst (0) dM_pull_20 (by decide) ?_
  refine mx_istore_n dM_pull_21 (Nat.le_of_ble_eq_true rfl) rfl ?_
  have h0 := hl 0 (Nat.zero_le _)
  rw [shD_0] at h0
  exact h0
def rCF (kd M : Nat → Int32) (g : Nat) : Bool := allB (pn kd g) (fun k => decide (¬ M (2 * g - 2 + k) ≤ 0))
def rCB (fr M : Nat → Int32) (g : Nat) : Bool := allB 27 (fun i => decide (¬ fr i = nI g ∨ ¬ M i ≤ 0))
theorem cM_canForward {thr cnt : Int32} {I : Nat → Nat → Int32} {Q : mx_O → List va_E → Prop} {g : Nat} (g1 : 1 ≤ g) (g2 : g ≤ 12) (hQ : Q (.inl (some (.int (i01 (rCF (I 1) (I 8) g))))) (rp thr cnt I)) : mx_W mx_K mT mCl jM_canForward (mR 1 21) 0 [.ref 0, .int (nI g), .retAddr 0, .retAddr 0] [] (rp thr cnt I) Q := by
  have hp := pn_le (I 1) g
  have hl : ∀ i, i ≤ pn (I 1) g → mx_W mx_K mT mCl jM_canForward (mR 1 21) 4 [.ref 0, .int (nI g), .int (i01 (allB i (fun k => decide (¬ I 8 (2 * g - 2 + k) ≤ 0)))), .int (nI i)] [] (rp thr cnt I) Q := by
    refine lp_down ?_ ?_
    · unfold rCF at hQ
      refine mx_iload_n dM_canForward_4 rfl ?_
      refine mx_aload_n dM_canForward_5 rfl ?_
      refine mx_iload_n dM_canForward_6 rfl ?_
      refine mx_V1 (R' := (mR 0 0)) [_] _ dM_canForward_7 rfl mT_G jM_pins_ok jM_pins_v lkM_63 ⟨rfl, rfl, Nat.le_of_ble_eq_true rfl, Nat.le_of_ble_eq_true rfl⟩ rfl rfl (Nat.le_of_ble_eq_true rfl) (Nat.le_of_ble_eq_true rfl) rfl rfl rfl (fun Qc qc => cM_pins (vp_in_nI (by omega) (by decide)) qc) ?_
      rw [pn_nat (by omega)]
      refine mx_icmp_ge 44 dM_canForward_10 rfl (fun h10 => ?_) (fun h10 => ?_)
      rotate_left
      · exact absurd (nI_le (Nat.le_refl _) (by omega)) h10
      refine mx_iload_n dM_canForward_44 rfl ?_
      refine mx_iret dM_canForward_45 rfl (by cases (allB (pn (I 1) g) (fun k => decide (¬ I 8 (2 * g - 2 + k) ≤ 0))) <;> rfl) ?_
      exact hQ
    · intro i hi ih
      rw [allB_succ] at ih
      refine mx_iload_n dM_canForward_4 rfl ?_
      refine mx_aload_n dM_canForward_5 rfl ?_
      refine mx_iload_n dM_canForward_6 rfl ?_
      refine mx_V1 (R' := (mR 0 0)) [_] _ dM_canForward_7 rfl mT_G jM_pins_ok jM_pins_v lkM_63 ⟨rfl, rfl, Nat.le_of_ble_eq_true rfl, Nat.le_of_ble_eq_true rfl⟩ rfl rfl (Nat.le_of_ble_eq_true rfl) (Nat.le_of_ble_eq_true rfl) rfl rfl rfl (fun Qc qc => cM_pins (vp_in_nI (by omega) (by decide)) qc) ?_
      rw [pn_nat (by omega)]
      refine mx_icmp_ge 44 dM_canForward_10 rfl (fun h10 => ?_) (fun h10 => ?_)
      · exact absurd h10 (nI_ge (by omega) (by omega))
      refine mx_iload_n dM_canForward_13 rfl ?_
      refine mx_if_eq 36 dM_canForward_14 rfl (fun h14 => ?_) (fun h14 => ?_)
      · refine mx_iconst (0) dM_canForward_36 (by decide) ?_
        first | rw [and_0a h14] at ih | rw [and_1p h14 h29] at ih | rw [and_0p (fun q => q h29)] at ih
        refine mx_istore_n dM_canForward_37 (Nat.le_of_ble_eq_true rfl) rfl ?_
        refine mx_iinc dM_canForward_38 rfl (mx_inc _) (Nat.le_of_ble_eq_true rfl) rfl ?_
        refine mx_goto 4 dM_canForward_41 rfl ?_
        exact ih
      · refine mx_aload_n dM_canForward_17 rfl ?_
        refine mx_get 8 9 dM_canForward_18 fgM_31 rfl rfl ?_
        refine mx_iconst (2) dM_canForward_21 (by decide) ?_
        refine mx_iload_n dM_canForward_22 rfl ?_
        refine mx_imul dM_canForward_23 ?_
        refine mx_iconst (2) dM_canForward_24 (by decide) ?_
        refine mx_isub dM_canForward_25 ?_
        refine mx_iload_n dM_canForward_26 rfl ?_
        refine mx_iadd dM_canForward_27 ?_
        rw [show (2 : Int32) = nI 2 from rfl, pk_mul, pk_sub (by omega), nI_add]
        refine mx_iald dM_canForward_28 rfl (vp_in_nI (by omega) (by decide)) ?_
        rw [nI_clamp (by omega)]
        try simp only [upI_self]
        refine mx_if_le 36 dM_canForward_29 rfl (fun h29 => ?_) (fun h29 => ?_)
        · refine mx_iconst (0) dM_canForward_36 (by decide) ?_
          first | rw [and_0a h14] at ih | rw [and_1p h14 h29] at ih | rw [and_0p (fun q => q h29)] at ih
          refine mx_istore_n dM_canForward_37 (Nat.le_of_ble_eq_true rfl) rfl ?_
          refine mx_iinc dM_canForward_38 rfl (mx_inc _) (Nat.le_of_ble_eq_true rfl) rfl ?_
          refine mx_goto 4 dM_canForward_41 rfl ?_
          exact ih
        · refine mx_iconst (1) dM_canForward_32 (by decide) ?_
          refine mx_goto 37 dM_canForward_33 rfl ?_
          first | rw [and_0a h14] at ih | rw [and_1p h14 h29] at ih | rw [and_0p (fun q => q h29)] at ih
          refine mx_istore_n dM_canForward_37 (Nat.le_of_ble_eq_true rfl) rfl ?_
          refine mx_iinc dM_canForward_38 rfl (mx_inc _) (Nat.le_of_ble_eq_true rfl) rfl ?_
          refine mx_goto 4 dM_canForward_41 rfl ?_
          exact ih
  refine mx_iconst (1) dM_canForward_0 (by decide) ?_
  refine mx_istore_n dM_canForward_1 (Nat.le_of_ble_eq_true rfl) rfl ?_
  refine mx_iconst (0) dM_canForward_2 (by decide) ?_
  refine mx_istore_n dM_canForward_3 (Nat.le_of_ble_eq_true rfl) rfl ?_
  exact hl 0 (Nat.zero_le _)
theorem cM_canBackward {thr cnt : Int32} {I : Nat → Nat → Int32} {Q : mx_O → List va_E → Prop} {g : Nat} (hQ : Q (.inl (some (.int (i01 (rCB (I 3) (I 8) g))))) (rp thr cnt I)) : mx_W mx_K mT mCl jM_canBackward (mR 0 0) 0 [.ref 0, .int (nI g), .retAddr 0, .retAddr 0] [] (rp thr cnt I) Q := by
  have hl : ∀ i, i ≤ 27 → mx_W mx_K mT mCl jM_canBackward (mR 0 0) 4 [.ref 0, .int (nI g), .int (i01 (allB i (fun i => decide (¬ I 3 i = nI g ∨ ¬ I 8 i ≤ 0)))), .int (nI i)] [] (rp thr cnt I) Q := by
    refine lp_down ?_ ?_
    · unfold rCB at hQ
      generalize allB 27 (fun i => decide (¬ I 3 i = nI g ∨ ¬ I 8 i ≤ 0)) = b at hQ ⊢
      refine mx_iload_n dM_canBackward_4 rfl ?_
      refine mx_bipush (27) dM_canBackward_5 (by decide) ?_
      refine mx_icmp_ge 45 dM_canBackward_7 rfl (fun h7 => ?_) (fun h7 => ?_)
      rotate_left
      · exact absurd (show (27 : Int32) ≤ nI 27 by decide) h7
      refine mx_iload_n dM_canBackward_45 rfl ?_
      refine mx_iret dM_canBackward_46 rfl (by cases b <;> rfl) ?_
      exact hQ
    · intro i hi ih
      rw [allB_succ] at ih
      refine mx_iload_n dM_canBackward_4 rfl ?_
      refine mx_bipush (27) dM_canBackward_5 (by decide) ?_
      refine mx_icmp_ge 45 dM_canBackward_7 rfl (fun h7 => ?_) (fun h7 => ?_)
      · exact absurd h7 (nI_ge (b := 27) hi (by decide))
      refine mx_iload_n dM_canBackward_10 rfl ?_
      refine mx_if_eq 37 dM_canBackward_11 rfl (fun h11 => ?_) (fun h11 => ?_)
      · refine mx_iconst (0) dM_canBackward_37 (by decide) ?_
        first | rw [and_0a h11] at ih | rw [and_1p h11 (Or.inl h21)] at ih | rw [and_1p h11 (Or.inr h30)] at ih | rw [and_0p (P := ¬ I 3 i = nI g ∨ ¬ I 8 i ≤ 0) (fun q => q.elim (fun q => q h21) (fun q => q h30))] at ih
        refine mx_istore_n dM_canBackward_38 (Nat.le_of_ble_eq_true rfl) rfl ?_
        refine mx_iinc dM_canBackward_39 rfl (mx_inc _) (Nat.le_of_ble_eq_true rfl) rfl ?_
        refine mx_goto 4 dM_canBackward_42 rfl ?_
        exact ih
      · refine mx_aload_n dM_canBackward_14 rfl ?_
        refine mx_get 8 4 dM_canBackward_15 fgM_16 rfl rfl ?_
        refine mx_iload_n dM_canBackward_18 rfl ?_
        refine mx_iald dM_canBackward_19 rfl (vp_in_nI (by omega) (by decide)) ?_
        rw [nI_clamp (by omega)]
        try simp only [upI_self]
        refine mx_iload_n dM_canBackward_20 rfl ?_
        refine mx_icmp_ne 33 dM_canBackward_21 rfl (fun h21 => ?_) (fun h21 => ?_)
        · refine mx_iconst (1) dM_canBackward_33 (by decide) ?_
          refine mx_goto 38 dM_canBackward_34 rfl ?_
          first | rw [and_0a h11] at ih | rw [and_1p h11 (Or.inl h21)] at ih | rw [and_1p h11 (Or.inr h30)] at ih | rw [and_0p (P := ¬ I 3 i = nI g ∨ ¬ I 8 i ≤ 0) (fun q => q.elim (fun q => q h21) (fun q => q h30))] at ih
          refine mx_istore_n dM_canBackward_38 (Nat.le_of_ble_eq_true rfl) rfl ?_
          refine mx_iinc dM_canBackward_39 rfl (mx_inc _) (Nat.le_of_ble_eq_true rfl) rfl ?_
          refine mx_goto 4 dM_canBackward_42 rfl ?_
          exact ih
        · refine mx_aload_n dM_canBackward_24 rfl ?_
          refine mx_get 8 9 dM_canBackward_25 fgM_31 rfl rfl ?_
          refine mx_iload_n dM_canBackward_28 rfl ?_
          refine mx_iald dM_canBackward_29 rfl (vp_in_nI (by omega) (by decide)) ?_
          rw [nI_clamp (by omega)]
          try simp only [upI_self]
          refine mx_if_le 37 dM_canBackward_30 rfl (fun h30 => ?_) (fun h30 => ?_)
          · refine mx_iconst (0) dM_canBackward_37 (by decide) ?_
            first | rw [and_0a h11] at ih | rw [and_1p h11 (Or.inl h21)] at ih | rw [and_1p h11 (Or.inr h30)] at ih | rw [and_0p (P := ¬ I 3 i = nI g ∨ ¬ I 8 i ≤ 0) (fun q => q.elim (fun q => q h21) (fun q => q h30))] at ih
            refine mx_istore_n dM_canBackward_38 (Nat.le_of_ble_eq_true rfl) rfl ?_
            refine mx_iinc dM_canBackward_39 rfl (mx_inc _) (Nat.le_of_ble_eq_true rfl) rfl ?_
            refine mx_goto 4 dM_canBackward_42 rfl ?_
            exact ih
          · refine mx_iconst (1) dM_canBackward_33 (by decide) ?_
            refine mx_goto 38 dM_canBackward_34 rfl ?_
            first | rw [and_0a h11] at ih | rw [and_1p h11 (Or.inl h21)] at ih | rw [and_1p h11 (Or.inr h30)] at ih | rw [and_0p (P := ¬ I 3 i = nI g ∨ ¬ I 8 i ≤ 0) (fun q => q.elim (fun q => q h21) (fun q => q h30))] at ih
            refine mx_istore_n dM_canBackward_38 (Nat.le_of_ble_eq_true rfl) rfl ?_
            refine mx_iinc dM_canBackward_39 rfl (mx_inc _) (Nat.le_of_ble_eq_true rfl) rfl ?_
            refine mx_goto 4 dM_canBackward_42 rfl ?_
            exact ih
  refine mx_iconst (1) dM_canBackward_0 (by decide) ?_
  refine mx_istore_n dM_canBackward_1 (Nat.le_of_ble_eq_true rfl) rfl ?_
  refine mx_iconst (0) dM_canBackward_2 (by decide) ?_
  refine mx_istore_n dM_canBackward_3 (Nat.le_of_ble_eq_true rfl) rfl ?_
  exact hl 0 (Nat.zero_le _)
