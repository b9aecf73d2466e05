/-! The reference: find, least. -/
theorem rA1_ext {I J : Nat → Nat → Int32} (h : ∀ j, j ≠ 10 → J j = I j) : rA1 J = rA1 I := by
  funext i s
  unfold rA1
  rw [h 3 (by decide), h 4 (by decide)]
theorem rLAll_ext {c : Nat} {I J : Nat → Nat → Int32} {k : Int32} {f : Nat → Int32} (h : ∀ j, j ≠ 10 → J j = I j) : rLAll c J k f = rLAll c I k f := by
  unfold rLAll
  rw [rA1_ext h, h 12 (by decide), h 2 (by decide)]
def rF1 (top : Int32) (g : Nat) (f : Nat → Int32) : Nat → Int32 := upd f (g + 1) top
def rSm (f : Nat → Int32) (g : Nat) (x : Int32) : Int32 := x + f (g + 1)
def rSum (c : Nat) (f : Nat → Int32) : Int32 := lp (rSm f) c 0
def rFs (c : Nat) (I : Nat → Nat → Int32) (k : Int32) : Nat → Bool → (Nat → Int32) → Int32 → Int32 → Option rLS
  | 0, ok, f, sum, now => if ok = false then some (f, false) else if now = sum then some (f, true) else none
  | m + 1, ok, f, sum, now => if ok = false then some (f, false) else if now = sum then some (f, true) else rFs c I k m (rLAll c I k f).2 (rLAll c I k f).1 now (rSum c (rLAll c I k f).1)
def rFind (c : Nat) (I : Nat → Nat → Int32) (k top : Int32) : Option rLS := rFs c I k 200 true (lp (rF1 top) c (I 10)) 1000 (12 * top)
theorem cM_find {c : Nat} {thr : Int32} {I : Nat → Nat → Int32} {Q : mx_O → List va_E → Prop} (hc : c ≤ 12) (hfr : ∀ w, w < 27 → I 3 w ≤ 12) {k top : Int32} {s : rLS} (hs : rFind c I k top = some s) (hQ : Q (.inl (some (.int (i01 s.2)))) (rp thr (nI c) (upI I 10 (s.1)))) : mx_W mx_K mT mCl jM_find (mR 3 70) 0 [.ref 0, .int k, .int top, .retAddr 0, .retAddr 0, .retAddr 0, .retAddr 0] [] (rp thr (nI c) I) Q := by
  have l1 : ∀ (f : Nat → Int32) (x b : Int32), mx_W mx_K mT mCl jM_find (mR 3 70) 36 [.ref 0, .int k, .int top, .int (x), .int (rSum c f), .int (b), .retAddr 0] [] (rp thr (nI c) (upI I 10 (f))) Q → ∀ i, i ≤ c → mx_W mx_K mT mCl jM_find (mR 3 70) 63 [.ref 0, .int k, .int top, .int (x), .int (lp (rSm f) i 0), .int (b), .int (nI (i + 1))] [] (rp thr (nI c) (upI I 10 (f))) Q := by
    intro f x b hk
    refine lp_down ?_ ?_
    · refine mx_iload dM_find_63 rfl ?_
      refine mx_aload_n dM_find_65 rfl ?_
      refine mx_get 8 1 dM_find_66 fgM_53 rfl rfl ?_
      refine mx_icmp_gt 90 dM_find_69 rfl (fun h69 => ?_) (fun h69 => ?_)
      rotate_left
      · exact absurd (nI_lt (Nat.lt_succ_self c) (by omega)) h69
      refine mx_goto 36 dM_find_90 rfl ?_
      unfold rSum at hk
      refine mx_drop 6 ?_
      exact hk
    · intro i hi ih
      have ih : mx_W mx_K mT mCl jM_find (mR 3 70) 63 [.ref 0, .int k, .int top, .int (x), .int (lp (rSm f) i 0 + f (i + 1)), .int (b), .int (nI (i + 1 + 1))] [] (rp thr (nI c) (upI I 10 (f))) Q := ih
      generalize lp (rSm f) i 0 = y at ih ⊢
      refine mx_iload dM_find_63 rfl ?_
      refine mx_aload_n dM_find_65 rfl ?_
      refine mx_get 8 1 dM_find_66 fgM_53 rfl rfl ?_
      refine mx_icmp_gt 90 dM_find_69 rfl (fun h69 => ?_) (fun h69 => ?_)
      · exact absurd h69 (nI_nlt (by omega) (by omega))
      refine mx_iload dM_find_72 rfl ?_
      refine mx_aload_n dM_find_74 rfl ?_
      refine mx_get 8 11 dM_find_75 fgM_37 rfl rfl ?_
      refine mx_iload dM_find_78 rfl ?_
      refine mx_iald dM_find_80 rfl (vp_in_nI (by omega) (by decide)) ?_
      rw [nI_clamp (by omega)]
      try simp only [upI_self]
      refine mx_iadd dM_find_81 ?_
      refine mx_istore dM_find_82 (Nat.le_of_ble_eq_true rfl) rfl ?_
      refine mx_iinc dM_find_84 rfl (mx_inc _) (Nat.le_of_ble_eq_true rfl) rfl ?_
      refine mx_goto 63 dM_find_87 rfl ?_
      exact ih
  have hext : ∀ f : Nat → Int32, rLAll c (upI I 10 f) k (upI I 10 f 10) = rLAll c I k f := fun f => by
    rw [upI_self]
    exact rLAll_ext (fun j hj => upI_ne _ _ hj)
  have l2 : ∀ (m : Nat) (ok : Bool) (f : Nat → Int32) (sum now : Int32), rFs c I k m ok f sum now = some s → mx_W mx_K mT mCl jM_find (mR 3 70) 36 [.ref 0, .int k, .int top, .int (sum), .int (now), .int (i01 ok), .retAddr 0] [] (rp thr (nI c) (upI I 10 (f))) Q := by
    intro m
    induction m with
    | zero =>
      intro ok f sum now h
      unfold rFs at h
      refine mx_iload dM_find_36 rfl ?_
      refine mx_if_eq 93 dM_find_38 rfl (fun h38 => ?_) (fun h38 => ?_)
      · refine mx_iload dM_find_93 rfl ?_
        refine mx_iret dM_find_95 rfl (by cases ok <;> rfl) ?_
        first
          | (rw [i01_z h38, if_pos rfl] at h; cases h; (try rw [i01_z h38]); exact hQ)
          | (rw [i01_nz h38, if_neg (by decide), if_pos h44] at h; cases h; (try rw [i01_nz h38]); exact hQ)
      · refine mx_iload dM_find_41 rfl ?_
        refine mx_iload_n dM_find_43 rfl ?_
        refine mx_icmp_eq 93 dM_find_44 rfl (fun h44 => ?_) (fun h44 => ?_)
        · refine mx_iload dM_find_93 rfl ?_
          refine mx_iret dM_find_95 rfl (by cases ok <;> rfl) ?_
          first
            | (rw [i01_z h38, if_pos rfl] at h; cases h; (try rw [i01_z h38]); exact hQ)
            | (rw [i01_nz h38, if_neg (by decide), if_pos h44] at h; cases h; (try rw [i01_nz h38]); exact hQ)
        · rw [i01_nz h38, if_neg (by decide), if_neg h44] at h
          cases h
    | succ m ihm =>
      intro ok f sum now h
      unfold rFs at h
      refine mx_iload dM_find_36 rfl ?_
      refine mx_if_eq 93 dM_find_38 rfl (fun h38 => ?_) (fun h38 => ?_)
      · refine mx_iload dM_find_93 rfl ?_
        refine mx_iret dM_find_95 rfl (by cases ok <;> rfl) ?_
        first
          | (rw [i01_z h38, if_pos rfl] at h; cases h; (try rw [i01_z h38]); exact hQ)
          | (rw [i01_nz h38, if_neg (by decide), if_pos h44] at h; cases h; (try rw [i01_nz h38]); exact hQ)
      · refine mx_iload dM_find_41 rfl ?_
        refine mx_iload_n dM_find_43 rfl ?_
        refine mx_icmp_eq 93 dM_find_44 rfl (fun h44 => ?_) (fun h44 => ?_)
        · refine mx_iload dM_find_93 rfl ?_
          refine mx_iret dM_find_95 rfl (by cases ok <;> rfl) ?_
          first
            | (rw [i01_z h38, if_pos rfl] at h; cases h; (try rw [i01_z h38]); exact hQ)
            | (rw [i01_nz h38, if_neg (by decide), if_pos h44] at h; cases h; (try rw [i01_nz h38]); exact hQ)
        · refine mx_iload dM_find_47 rfl ?_
          refine mx_istore_n dM_find_49 (Nat.le_of_ble_eq_true rfl) rfl ?_
          refine mx_aload_n dM_find_50 rfl ?_
          refine mx_iload_n dM_find_51 rfl ?_
          refine mx_V1 (R' := (mR 2 45)) [_] _ dM_find_52 rfl mT_G jM_lowerAll_ok jM_lowerAll_v lkM_107 ⟨rfl, rfl, Nat.le_of_ble_eq_true rfl, Nat.le_of_ble_eq_true rfl⟩ rfl rfl (Nat.le_of_ble_eq_true rfl) (Nat.le_of_ble_eq_true rfl) rfl rfl rfl (fun Qc qc => cM_lowerAll hc (fun w hw => by rw [upI_ne _ _ (by decide)]; exact hfr w hw) qc) ?_
          rw [hext f]
          try simp only [upI_upI]
          refine mx_istore dM_find_55 (Nat.le_of_ble_eq_true rfl) rfl ?_
          refine mx_iconst (0) dM_find_57 (by decide) ?_
          refine mx_istore dM_find_58 (Nat.le_of_ble_eq_true rfl) rfl ?_
          refine mx_iconst (1) dM_find_60 (by decide) ?_
          refine mx_istore dM_find_61 (Nat.le_of_ble_eq_true rfl) rfl ?_
          rw [i01_nz h38, if_neg (by decide), if_neg h44] at h
          exact l1 (rLAll c I k f).1 now (i01 (rLAll c I k f).2) (ihm _ _ _ _ h) 0 (Nat.zero_le _)
  have l0 : ∀ i, i ≤ c → mx_W mx_K mT mCl jM_find (mR 3 70) 2 [.ref 0, .int k, .int top, .int (nI (i + 1)), .retAddr 0, .retAddr 0, .retAddr 0] [] (rp thr (nI c) (upI I 10 (lp (rF1 top) i (I 10)))) Q := by
    refine lp_down ?_ ?_
    · refine mx_iload_n dM_find_2 rfl ?_
      refine mx_aload_n dM_find_3 rfl ?_
      refine mx_get 8 1 dM_find_4 fgM_53 rfl rfl ?_
      refine mx_icmp_gt 23 dM_find_7 rfl (fun h7 => ?_) (fun h7 => ?_)
      rotate_left
      · exact absurd (nI_lt (Nat.lt_succ_self c) (by omega)) h7
      refine mx_sipush (1000) dM_find_23 (by decide) ?_
      refine mx_istore_n dM_find_26 (Nat.le_of_ble_eq_true rfl) rfl ?_
      refine mx_bipush (12) dM_find_27 (by decide) ?_
      refine mx_iload_n dM_find_29 rfl ?_
      refine mx_imul dM_find_30 ?_
      refine mx_istore dM_find_31 (Nat.le_of_ble_eq_true rfl) rfl ?_
      refine mx_iconst (1) dM_find_33 (by decide) ?_
      refine mx_istore dM_find_34 (Nat.le_of_ble_eq_true rfl) rfl ?_
      unfold rFind at hs
      exact l2 200 true _ 1000 (12 * top) hs
    · intro i hi ih
      have ih : mx_W mx_K mT mCl jM_find (mR 3 70) 2 [.ref 0, .int k, .int top, .int (nI (i + 1 + 1)), .retAddr 0, .retAddr 0, .retAddr 0] [] (rp thr (nI c) (upI I 10 (upd (lp (rF1 top) i (I 10)) (i + 1) top))) Q := ih
      generalize lp (rF1 top) i (I 10) = f at ih ⊢
      refine mx_iload_n dM_find_2 rfl ?_
      refine mx_aload_n dM_find_3 rfl ?_
      refine mx_get 8 1 dM_find_4 fgM_53 rfl rfl ?_
      refine mx_icmp_gt 23 dM_find_7 rfl (fun h7 => ?_) (fun h7 => ?_)
      · exact absurd h7 (nI_nlt (by omega) (by omega))
      refine mx_aload_n dM_find_10 rfl ?_
      refine mx_get 8 11 dM_find_11 fgM_37 rfl rfl ?_
      refine mx_iload_n dM_find_14 rfl ?_
      refine mx_iload_n dM_find_15 rfl ?_
      refine mx_iast dM_find_16 rfl (vp_in_nI (by omega) (by decide)) ?_
      rw [nI_clamp (by omega)]
      refine mx_iinc dM_find_17 rfl (mx_inc _) (Nat.le_of_ble_eq_true rfl) rfl ?_
      refine mx_goto 2 dM_find_20 rfl ?_
      refine mx_eqs rfl rfl rfl ?_ ih
      rw [← upI_upI I 10 f]
      rfl
  refine mx_iconst (1) dM_find_0 (by decide) ?_
  refine mx_istore_n dM_find_1 (Nat.le_of_ble_eq_true rfl) rfl ?_
  refine mx_eqs rfl rfl rfl ?_ (l0 0 (Nat.zero_le _))
  rw [lp_zero, upI_own]
def rLst (c : Nat) : Nat → Nat → Nat → (Nat → Nat → Int32) → Option (Nat × (Nat → Nat → Int32))
  | 0, lo, hi, I => if hi ≤ lo then some (lo, I) else none
  | m + 1, lo, hi, I => if hi ≤ lo then some (lo, I) else match rFind c I (nI ((lo + hi) / 2)) 6 with
    | none => none
    | some s => if s.2 = true then rLst c m lo ((lo + hi) / 2) (upI I 10 s.1) else rLst c m ((lo + hi) / 2 + 1) hi (upI I 10 s.1)
def rLeast (c : Nat) (I : Nat → Nat → Int32) : Option rR3 := if rSnd c I = true then (match rLst c 10 0 600 (rK c I) with | none => none | some q => some (nI q.1, 0, q.2)) else some (0, 1, rSnI c I)
theorem rK_ne {c : Nat} {I : Nat → Nat → Int32} {j : Nat} (h : j ≠ 13) (h2 : j ≠ 12) : rK c I j = I j := by
  unfold rK
  rw [upI_ne _ _ h2, rSnI_ne h]
theorem cM_least {c : Nat} {thr : Int32} {I : Nat → Nat → Int32} {Q : mx_O → List va_E → Prop} (hc : c ≤ 12) (hfr : ∀ w, w < 27 → I 3 w ≤ 12) {q : rR3} (hs : rLeast c I = some q) (hQ : Q (.inl (some (.int q.1))) (rp q.2.1 (nI c) q.2.2)) : mx_W mx_K mT mCl jM_least (mR 4 96) 0 [.ref 0, .retAddr 0, .retAddr 0, .retAddr 0] [] (rp thr (nI c) I) Q := by
  have l2 : ∀ (m lo hi : Nat) (J : Nat → Nat → Int32) (q : Nat × (Nat → Nat → Int32)), (∀ w, w < 27 → J 3 w ≤ 12) → lo < 10000 → hi < 10000 → rLst c m lo hi J = some q → Q (.inl (some (.int (nI q.1)))) (rp 0 (nI c) q.2) → mx_W mx_K mT mCl jM_least (mR 4 96) 35 [.ref 0, .int (nI lo), .int (nI hi), .retAddr 0] [] (rp 0 (nI c) J) Q := by
    intro m
    induction m with
    | zero =>
      intro lo hi J q hJ hlo hhi h hq
      unfold rLst at h
      refine mx_iload_n dM_least_35 rfl ?_
      refine mx_iload_n dM_least_36 rfl ?_
      refine mx_icmp_ge 68 dM_least_37 rfl (fun h37 => ?_) (fun h37 => ?_)
      · refine mx_iload_n dM_least_68 rfl ?_
        refine mx_iret dM_least_69 rfl rfl ?_
        rw [if_pos (Nat.le_of_not_lt (fun e => absurd h37 (nI_ge e (by omega))))] at h
        cases h
        exact hq
      · rw [if_neg (fun e => h37 (nI_le e (by omega)))] at h
        cases h
    | succ m ihm =>
      intro lo hi J q hJ hlo hhi h hq
      unfold rLst at h
      refine mx_iload_n dM_least_35 rfl ?_
      refine mx_iload_n dM_least_36 rfl ?_
      refine mx_icmp_ge 68 dM_least_37 rfl (fun h37 => ?_) (fun h37 => ?_)
      · refine mx_iload_n dM_least_68 rfl ?_
        refine mx_iret dM_least_69 rfl rfl ?_
        rw [if_pos (Nat.le_of_not_lt (fun e => absurd h37 (nI_ge e (by omega))))] at h
        cases h
        exact hq
      · rw [if_neg (fun e => h37 (nI_le e (by omega)))] at h
        have hlt : lo < hi := Nat.lt_of_not_le (fun e => h37 (nI_le e (by omega)))
        cases hf : rFind c J (nI ((lo + hi) / 2)) 6 with
        | none => rw [hf] at h; cases h
        | some s =>
          rw [hf] at h
          have h : (if s.2 = true then rLst c m lo ((lo + hi) / 2) (upI J 10 s.1) else rLst c m ((lo + hi) / 2 + 1) hi (upI J 10 s.1)) = some q := h
          refine mx_iload_n dM_least_40 rfl ?_
          refine mx_iload_n dM_least_41 rfl ?_
          refine mx_iadd dM_least_42 ?_
          refine mx_iconst (2) dM_least_43 (by decide) ?_
          refine mx_idiv dM_least_44 (by decide) ?_
          rw [nI_add, show (2 : Int32) = nI 2 from rfl, pk_div (by omega) (by decide) (by decide)]
          refine mx_istore_n dM_least_45 (Nat.le_of_ble_eq_true rfl) rfl ?_
          refine mx_aload_n dM_least_46 rfl ?_
          refine mx_iload_n dM_least_47 rfl ?_
          refine mx_bipush (6) dM_least_48 (by decide) ?_
          refine mx_V1 (R' := (mR 3 70)) [_, _] _ dM_least_50 rfl mT_G jM_find_ok jM_find_v lkM_110 ⟨rfl, rfl, Nat.le_of_ble_eq_true rfl, Nat.le_of_ble_eq_true rfl⟩ rfl rfl (Nat.le_of_ble_eq_true rfl) (Nat.le_of_ble_eq_true rfl) rfl rfl rfl (fun Qc qc => cM_find hc hJ hf qc) ?_
          refine mx_if_eq 61 dM_least_53 rfl (fun h53 => ?_) (fun h53 => ?_)
          · refine mx_iload_n dM_least_61 rfl ?_
            refine mx_iconst (1) dM_least_62 (by decide) ?_
            refine mx_iadd dM_least_63 ?_
            refine mx_istore_n dM_least_64 (Nat.le_of_ble_eq_true rfl) rfl ?_
            refine mx_goto 35 dM_least_65 rfl ?_
            refine mx_drop 3 ?_
            first
              | (rw [if_pos (i01_nz h53)] at h; exact ihm lo ((lo + hi) / 2) (upI J 10 s.1) q (fun w hw => by rw [upI_ne _ _ (by decide)]; exact hJ w hw) (by omega) (by omega) h hq)
              | (rw [i01_z h53, if_neg (by decide)] at h; rw [← nI_succ]; exact ihm ((lo + hi) / 2 + 1) hi (upI J 10 s.1) q (fun w hw => by rw [upI_ne _ _ (by decide)]; exact hJ w hw) (by omega) (by omega) h hq)
          · refine mx_iload_n dM_least_56 rfl ?_
            refine mx_istore_n dM_least_57 (Nat.le_of_ble_eq_true rfl) rfl ?_
            refine mx_goto 65 dM_least_58 rfl ?_
            refine mx_goto 35 dM_least_65 rfl ?_
            refine mx_drop 3 ?_
            first
              | (rw [if_pos (i01_nz h53)] at h; exact ihm lo ((lo + hi) / 2) (upI J 10 s.1) q (fun w hw => by rw [upI_ne _ _ (by decide)]; exact hJ w hw) (by omega) (by omega) h hq)
              | (rw [i01_z h53, if_neg (by decide)] at h; rw [← nI_succ]; exact ihm ((lo + hi) / 2 + 1) hi (upI J 10 s.1) q (fun w hw => by rw [upI_ne _ _ (by decide)]; exact hJ w hw) (by omega) (by omega) h hq)
  unfold rLeast at hs
  refine mx_aload_n dM_least_0 rfl ?_
  refine mx_aload_n dM_least_1 rfl ?_
  refine mx_V1 (R' := (mR 2 46)) [] _ dM_least_2 rfl mT_G jM_isSound_ok jM_isSound_v lkM_92 ⟨rfl, rfl, Nat.le_of_ble_eq_true rfl, Nat.le_of_ble_eq_true rfl⟩ rfl rfl (Nat.le_of_ble_eq_true rfl) (Nat.le_of_ble_eq_true rfl) rfl rfl rfl (fun Qc qc => cM_isSound hc hfr qc) ?_
  refine mx_if_eq 12 dM_least_5 rfl (fun h5 => ?_) (fun h5 => ?_)
  · rw [i01_z h5, if_neg (by decide)] at hs
    cases hs
    refine mx_iconst (1) dM_least_12 (by decide) ?_
    refine mx_put 8 0 (.int) dM_least_13 fpM_49 rfl (Nat.le_of_ble_eq_true rfl) rfl rfl ?_
    refine mx_aload_n dM_least_16 rfl ?_
    refine mx_get 8 0 dM_least_17 fgM_49 rfl rfl ?_
    refine mx_if_eq 25 dM_least_20 rfl (fun h20 => ?_) (fun h20 => ?_)
    · exact absurd h20 (by decide)
    refine mx_iconst (0) dM_least_23 (by decide) ?_
    refine mx_iret dM_least_24 rfl rfl ?_
    exact hQ
  · rw [if_pos (i01_nz h5)] at hs
    cases hl : rLst c 10 0 600 (rK c I) with
    | none => rw [hl] at hs; cases hs
    | some z =>
      rw [hl] at hs
      cases hs
      refine mx_iconst (0) dM_least_8 (by decide) ?_
      refine mx_goto 13 dM_least_9 rfl ?_
      refine mx_put 8 0 (.int) dM_least_13 fpM_49 rfl (Nat.le_of_ble_eq_true rfl) rfl rfl ?_
      refine mx_aload_n dM_least_16 rfl ?_
      refine mx_get 8 0 dM_least_17 fgM_49 rfl rfl ?_
      refine mx_if_eq 25 dM_least_20 rfl (fun h20 => ?_) (fun h20 => ?_)
      rotate_left
      · exact absurd rfl h20
      refine mx_aload_n dM_least_25 rfl ?_
      refine mx_V1 (R' := (mR 1 20)) [] _ dM_least_26 rfl mT_G jM_measure_ok jM_measure_v lkM_95 ⟨rfl, rfl, Nat.le_of_ble_eq_true rfl, Nat.le_of_ble_eq_true rfl⟩ rfl rfl (Nat.le_of_ble_eq_true rfl) (Nat.le_of_ble_eq_true rfl) rfl rfl rfl (fun Qc qc => cM_measure hc (fun w hw => by rw [rSnI_ne (by decide)]; exact hfr w hw) qc) ?_
      refine mx_iconst (0) dM_least_29 (by decide) ?_
      refine mx_istore_n dM_least_30 (Nat.le_of_ble_eq_true rfl) rfl ?_
      refine mx_sipush (600) dM_least_31 (by decide) ?_
      refine mx_istore_n dM_least_34 (Nat.le_of_ble_eq_true rfl) rfl ?_
      exact l2 10 0 600 (rK c I) z (fun w hw => by rw [rK_ne (by decide) (by decide)]; exact hfr w hw) (by decide) (by decide) hl hQ
