/-! The reference: looped, isSound, sound, period, weight, delay. -/
theorem exB_succ (n : Nat) (p : Nat → Bool) : exB (n + 1) p = (exB n p || p n) := by simp [exB, List.range_succ]
theorem allB_succ (n : Nat) (p : Nat → Bool) : allB (n + 1) p = (allB n p && p n) := by simp [allB, List.range_succ]
theorem or_1a {a b : Bool} (h : ¬ i01 a = 0) : i01 (a || b) = 1 := by rw [i01_nz h]; rfl
theorem or_1b {a : Bool} {P : Prop} [Decidable P] (h : P) : i01 (a || decide P) = 1 := by rw [decide_eq_true h, Bool.or_true]; rfl
theorem or_0 {a : Bool} {P : Prop} [Decidable P] (h : i01 a = 0) (h2 : ¬ P) : i01 (a || decide P) = 0 := by rw [i01_z h, decide_eq_false h2]; rfl
theorem and_1 {a b : Bool} (h : ¬ i01 a = 0) (h2 : ¬ i01 b = 0) : i01 (a && b) = 1 := by rw [i01_nz h, i01_nz h2]; rfl
theorem and_0a {a b : Bool} (h : i01 a = 0) : i01 (a && b) = 0 := by rw [i01_z h]; rfl
theorem and_0b {a b : Bool} (h : i01 b = 0) : i01 (a && b) = 0 := by rw [i01_z h, Bool.and_false]; rfl
theorem and_1p {a : Bool} {P : Prop} [Decidable P] (h : ¬ i01 a = 0) (h2 : P) : i01 (a && decide P) = 1 := by rw [i01_nz h, decide_eq_true h2]; rfl
theorem and_0p {a : Bool} {P : Prop} [Decidable P] (h : ¬ P) : i01 (a && decide P) = 0 := by rw [decide_eq_false h, Bool.and_false]; rfl
def rwt (I : Nat → Nat → Int32) (f : Nat → Int32) (w : Nat) : Bool := decide (¬ I 3 w ≤ 0 ∧ I 4 w = 0 ∧ f (I 3 w).toNatClampNeg = 0)
def rwts (I : Nat → Nat → Int32) (f : Nat → Int32) (u : Nat) : Bool := exB (pn (I 1) (u + 1)) (fun k => rwt I f (2 * u + k))
def rLg (I : Nat → Nat → Int32) (u : Nat) (f : Nat → Int32) : Nat → Int32 := upd f (u + 1) (if rwts I f u = true then f (u + 1) else 1)
def rLr (c : Nat) (I : Nat → Nat → Int32) (_ : Nat) (f : Nat → Int32) : Nat → Int32 := lp (rLg I) c f
def rLz (g : Nat) (f : Nat → Int32) : Nat → Int32 := upd f (g + 1) 0
def rLo0 (c : Nat) (f : Nat → Int32) : Nat → Int32 := lp rLz c f
def rOut (c : Nat) (I : Nat → Nat → Int32) : Nat → Int32 := lp (rLr c I) c (rLo0 c (I 13))
def rLoop (c : Nat) (I : Nat → Nat → Int32) : Bool := exB c (fun g => decide (rOut c I (g + 1) = 0))
theorem cM_looped {c : Nat} {thr : Int32} {I : Nat → Nat → Int32} {Q : mx_O → List va_E → Prop} (hc : c ≤ 12) (hfr : ∀ w, w < 27 → I 3 w ≤ 12) (hQ : Q (.inl (some (.int (i01 (rLoop c I))))) (rp thr (nI c) (upI I 13 (rOut c I)))) : mx_W mx_K mT mCl jM_looped (mR 1 21) 0 [.ref 0, .retAddr 0, .retAddr 0, .retAddr 0, .retAddr 0, .retAddr 0] [] (rp thr (nI c) I) Q := by
  have lD : ∀ i, i ≤ c → mx_W mx_K mT mCl jM_looped (mR 1 21) 155 [.ref 0, .int (i01 (exB i (fun g => decide (rOut c I (g + 1) = 0)))), .int (nI (i + 1)), .retAddr 0, .retAddr 0, .retAddr 0] [] (rp thr (nI c) (upI I 13 (rOut c I))) Q := by
    refine lp_down ?_ ?_
    · refine mx_iload_n dM_looped_155 rfl ?_
      refine mx_aload_n dM_looped_156 rfl ?_
      refine mx_get 8 1 dM_looped_157 fgM_53 rfl rfl ?_
      refine mx_icmp_gt 188 dM_looped_160 rfl (fun h160 => ?_) (fun h160 => ?_)
      rotate_left
      · exact absurd (nI_lt (Nat.lt_succ_self c) (by omega)) h160
      refine mx_iload_n dM_looped_188 rfl ?_
      refine mx_iret dM_looped_189 rfl (by cases (exB c (fun g => decide (rOut c I (g + 1) = 0))) <;> rfl) ?_
      exact hQ
    · intro i hi ih
      rw [exB_succ] at ih
      refine mx_iload_n dM_looped_155 rfl ?_
      refine mx_aload_n dM_looped_156 rfl ?_
      refine mx_get 8 1 dM_looped_157 fgM_53 rfl rfl ?_
      refine mx_icmp_gt 188 dM_looped_160 rfl (fun h160 => ?_) (fun h160 => ?_)
      · exact absurd h160 (nI_nlt (by omega) (by omega))
      refine mx_iload_n dM_looped_163 rfl ?_
      refine mx_if_ne 176 dM_looped_164 rfl (fun h164 => ?_) (fun h164 => ?_)
      · refine mx_iconst (1) dM_looped_176 (by decide) ?_
        refine mx_goto 181 dM_looped_177 rfl ?_
        first | rw [or_1a h164] at ih | rw [or_1b h173] at ih | rw [or_0 h164 h173] at ih
        refine mx_istore_n dM_looped_181 (Nat.le_of_ble_eq_true rfl) rfl ?_
        refine mx_iinc dM_looped_182 rfl (mx_inc _) (Nat.le_of_ble_eq_true rfl) rfl ?_
        refine mx_goto 155 dM_looped_185 rfl ?_
        exact ih
      · refine mx_aload_n dM_looped_167 rfl ?_
        refine mx_get 8 14 dM_looped_168 fgM_46 rfl rfl ?_
        refine mx_iload_n dM_looped_171 rfl ?_
        refine mx_iald dM_looped_172 rfl (vp_in_nI (by omega) (by decide)) ?_
        rw [nI_clamp (by omega)]
        try simp only [upI_self]
        refine mx_if_ne 180 dM_looped_173 rfl (fun h173 => ?_) (fun h173 => ?_)
        · refine mx_iconst (0) dM_looped_180 (by decide) ?_
          first | rw [or_1a h164] at ih | rw [or_1b h173] at ih | rw [or_0 h164 h173] at ih
          refine mx_istore_n dM_looped_181 (Nat.le_of_ble_eq_true rfl) rfl ?_
          refine mx_iinc dM_looped_182 rfl (mx_inc _) (Nat.le_of_ble_eq_true rfl) rfl ?_
          refine mx_goto 155 dM_looped_185 rfl ?_
          exact ih
        · refine mx_iconst (1) dM_looped_176 (by decide) ?_
          refine mx_goto 181 dM_looped_177 rfl ?_
          first | rw [or_1a h164] at ih | rw [or_1b h173] at ih | rw [or_0 h164 h173] at ih
          refine mx_istore_n dM_looped_181 (Nat.le_of_ble_eq_true rfl) rfl ?_
          refine mx_iinc dM_looped_182 rfl (mx_inc _) (Nat.le_of_ble_eq_true rfl) rfl ?_
          refine mx_goto 155 dM_looped_185 rfl ?_
          exact ih
  have lC1 : ∀ (r u : Nat) (f : Nat → Int32), u < c → mx_W mx_K mT mCl jM_looped (mR 1 21) 119 [.ref 0, .int (nI r), .int (nI (u + 1)), .int (i01 (rwts I f u)), .int (nI (pn (I 1) (u + 1))), .retAddr 0] [] (rp thr (nI c) (upI I 13 (f))) Q → ∀ i, i ≤ pn (I 1) (u + 1) → mx_W mx_K mT mCl jM_looped (mR 1 21) 48 [.ref 0, .int (nI r), .int (nI (u + 1)), .int (i01 (exB i (fun k => rwt I f (2 * u + k)))), .int (nI i), .retAddr 0] [] (rp thr (nI c) (upI I 13 (f))) Q := by
    intro r u f hu hk
    have hp := pn_le (I 1) (u + 1)
    refine lp_down ?_ ?_
    · refine mx_iload dM_looped_48 rfl ?_
      refine mx_aload_n dM_looped_50 rfl ?_
      refine mx_iload_n dM_looped_51 rfl ?_
      refine mx_V1 (R' := (mR 0 0)) [_] _ dM_looped_52 rfl mT_G jM_pins_ok jM_pins_v lkM_63 ⟨rfl, rfl, Nat.le_of_ble_eq_true rfl, Nat.le_of_ble_eq_true rfl⟩ rfl rfl (Nat.le_of_ble_eq_true rfl) (Nat.le_of_ble_eq_true rfl) rfl rfl rfl (fun Qc qc => cM_pins (vp_in_nI (by omega) (by decide)) qc) ?_
      rw [pn_nat (by omega), upI_ne _ _ (by decide)]
      refine mx_icmp_ge 119 dM_looped_55 rfl (fun h55 => ?_) (fun h55 => ?_)
      rotate_left
      · exact absurd (nI_le (Nat.le_refl _) (by omega)) h55
      exact hk
    · intro i hi ih
      have hp := pn_le (I 1) (u + 1)
      rw [exB_succ, show rwt I f (2 * u + i) = decide (¬ I 3 (2 * u + i) ≤ 0 ∧ I 4 (2 * u + i) = 0 ∧ f (I 3 (2 * u + i)).toNatClampNeg = 0) from rfl] at ih
      refine mx_iload dM_looped_48 rfl ?_
      refine mx_aload_n dM_looped_50 rfl ?_
      refine mx_iload_n dM_looped_51 rfl ?_
      refine mx_V1 (R' := (mR 0 0)) [_] _ dM_looped_52 rfl mT_G jM_pins_ok jM_pins_v lkM_63 ⟨rfl, rfl, Nat.le_of_ble_eq_true rfl, Nat.le_of_ble_eq_true rfl⟩ rfl rfl (Nat.le_of_ble_eq_true rfl) (Nat.le_of_ble_eq_true rfl) rfl rfl rfl (fun Qc qc => cM_pins (vp_in_nI (by omega) (by decide)) qc) ?_
      rw [pn_nat (by omega), upI_ne _ _ (by decide)]
      refine mx_icmp_ge 119 dM_looped_55 rfl (fun h55 => ?_) (fun h55 => ?_)
      · exact absurd h55 (nI_ge (by omega) (by omega))
      refine mx_iconst (2) dM_looped_58 (by decide) ?_
      refine mx_iload_n dM_looped_59 rfl ?_
      refine mx_imul dM_looped_60 ?_
      refine mx_iconst (2) dM_looped_61 (by decide) ?_
      refine mx_isub dM_looped_62 ?_
      refine mx_iload dM_looped_63 rfl ?_
      refine mx_iadd dM_looped_65 ?_
      rw [show (2 : Int32) = nI 2 from rfl, pk_mul, pk_sub (by omega), nI_add, show 2 * (u + 1) - 2 + i = 2 * u + i from by omega]
      refine mx_istore dM_looped_66 (Nat.le_of_ble_eq_true rfl) rfl ?_
      refine mx_iload_n dM_looped_68 rfl ?_
      refine mx_if_ne 107 dM_looped_69 rfl (fun h69 => ?_) (fun h69 => ?_)
      · refine mx_iconst (1) dM_looped_107 (by decide) ?_
        refine mx_goto 112 dM_looped_108 rfl ?_
        first | rw [or_1a h69] at ih | rw [or_1b (And.intro h79 (And.intro h89 h104))] at ih | rw [or_0 (P := ¬ I 3 (2 * u + i) ≤ 0 ∧ I 4 (2 * u + i) = 0 ∧ f (I 3 (2 * u + i)).toNatClampNeg = 0) h69 (fun q => q.1 h79)] at ih | rw [or_0 (P := ¬ I 3 (2 * u + i) ≤ 0 ∧ I 4 (2 * u + i) = 0 ∧ f (I 3 (2 * u + i)).toNatClampNeg = 0) h69 (fun q => h89 q.2.1)] at ih | rw [or_0 (P := ¬ I 3 (2 * u + i) ≤ 0 ∧ I 4 (2 * u + i) = 0 ∧ f (I 3 (2 * u + i)).toNatClampNeg = 0) h69 (fun q => h104 q.2.2)] at ih
        refine mx_istore_n dM_looped_112 (Nat.le_of_ble_eq_true rfl) rfl ?_
        refine mx_iinc dM_looped_113 rfl (mx_inc _) (Nat.le_of_ble_eq_true rfl) rfl ?_
        refine mx_goto 48 dM_looped_116 rfl ?_
        refine mx_drop 5 ?_
        exact ih
      · refine mx_aload_n dM_looped_72 rfl ?_
        refine mx_get 8 4 dM_looped_73 fgM_16 rfl rfl ?_
        refine mx_iload dM_looped_76 rfl ?_
        refine mx_iald dM_looped_78 rfl (vp_in_nI (by omega) (by decide)) ?_
        rw [nI_clamp (by omega), upI_ne _ _ (by decide)]
        refine mx_if_le 111 dM_looped_79 rfl (fun h79 => ?_) (fun h79 => ?_)
        · refine mx_iconst (0) dM_looped_111 (by decide) ?_
          first | rw [or_1a h69] at ih | rw [or_1b (And.intro h79 (And.intro h89 h104))] at ih | rw [or_0 (P := ¬ I 3 (2 * u + i) ≤ 0 ∧ I 4 (2 * u + i) = 0 ∧ f (I 3 (2 * u + i)).toNatClampNeg = 0) h69 (fun q => q.1 h79)] at ih | rw [or_0 (P := ¬ I 3 (2 * u + i) ≤ 0 ∧ I 4 (2 * u + i) = 0 ∧ f (I 3 (2 * u + i)).toNatClampNeg = 0) h69 (fun q => h89 q.2.1)] at ih | rw [or_0 (P := ¬ I 3 (2 * u + i) ≤ 0 ∧ I 4 (2 * u + i) = 0 ∧ f (I 3 (2 * u + i)).toNatClampNeg = 0) h69 (fun q => h104 q.2.2)] at ih
          refine mx_istore_n dM_looped_112 (Nat.le_of_ble_eq_true rfl) rfl ?_
          refine mx_iinc dM_looped_113 rfl (mx_inc _) (Nat.le_of_ble_eq_true rfl) rfl ?_
          refine mx_goto 48 dM_looped_116 rfl ?_
          refine mx_drop 5 ?_
          exact ih
        · refine mx_aload_n dM_looped_82 rfl ?_
          refine mx_get 8 5 dM_looped_83 fgM_19 rfl rfl ?_
          refine mx_iload dM_looped_86 rfl ?_
          refine mx_iald dM_looped_88 rfl (vp_in_nI (by omega) (by decide)) ?_
          rw [nI_clamp (by omega), upI_ne _ _ (by decide)]
          refine mx_if_ne 111 dM_looped_89 rfl (fun h89 => ?_) (fun h89 => ?_)
          · refine mx_iconst (0) dM_looped_111 (by decide) ?_
            first | rw [or_1a h69] at ih | rw [or_1b (And.intro h79 (And.intro h89 h104))] at ih | rw [or_0 (P := ¬ I 3 (2 * u + i) ≤ 0 ∧ I 4 (2 * u + i) = 0 ∧ f (I 3 (2 * u + i)).toNatClampNeg = 0) h69 (fun q => q.1 h79)] at ih | rw [or_0 (P := ¬ I 3 (2 * u + i) ≤ 0 ∧ I 4 (2 * u + i) = 0 ∧ f (I 3 (2 * u + i)).toNatClampNeg = 0) h69 (fun q => h89 q.2.1)] at ih | rw [or_0 (P := ¬ I 3 (2 * u + i) ≤ 0 ∧ I 4 (2 * u + i) = 0 ∧ f (I 3 (2 * u + i)).toNatClampNeg = 0) h69 (fun q => h104 q.2.2)] at ih
            refine mx_istore_n dM_looped_112 (Nat.le_of_ble_eq_true rfl) rfl ?_
            refine mx_iinc dM_looped_113 rfl (mx_inc _) (Nat.le_of_ble_eq_true rfl) rfl ?_
            refine mx_goto 48 dM_looped_116 rfl ?_
            refine mx_drop 5 ?_
            exact ih
          · refine mx_aload_n dM_looped_92 rfl ?_
            refine mx_get 8 14 dM_looped_93 fgM_46 rfl rfl ?_
            refine mx_aload_n dM_looped_96 rfl ?_
            refine mx_get 8 4 dM_looped_97 fgM_16 rfl rfl ?_
            refine mx_iload dM_looped_100 rfl ?_
            refine mx_iald dM_looped_102 rfl (vp_in_nI (by omega) (by decide)) ?_
            rw [nI_clamp (by omega), upI_ne _ _ (by decide)]
            obtain ⟨g, hg0, hg, eg⟩ := fr_nat (hfr (2 * u + i) (by omega)) h79
            refine mx_iald dM_looped_103 rfl (by rw [eg]; exact vp_in_nI (by omega) (by decide)) ?_
            simp only [upI_self]
            refine mx_if_ne 111 dM_looped_104 rfl (fun h104 => ?_) (fun h104 => ?_)
            · refine mx_iconst (0) dM_looped_111 (by decide) ?_
              first | rw [or_1a h69] at ih | rw [or_1b (And.intro h79 (And.intro h89 h104))] at ih | rw [or_0 (P := ¬ I 3 (2 * u + i) ≤ 0 ∧ I 4 (2 * u + i) = 0 ∧ f (I 3 (2 * u + i)).toNatClampNeg = 0) h69 (fun q => q.1 h79)] at ih | rw [or_0 (P := ¬ I 3 (2 * u + i) ≤ 0 ∧ I 4 (2 * u + i) = 0 ∧ f (I 3 (2 * u + i)).toNatClampNeg = 0) h69 (fun q => h89 q.2.1)] at ih | rw [or_0 (P := ¬ I 3 (2 * u + i) ≤ 0 ∧ I 4 (2 * u + i) = 0 ∧ f (I 3 (2 * u + i)).toNatClampNeg = 0) h69 (fun q => h104 q.2.2)] at ih
              refine mx_istore_n dM_looped_112 (Nat.le_of_ble_eq_true rfl) rfl ?_
              refine mx_iinc dM_looped_113 rfl (mx_inc _) (Nat.le_of_ble_eq_true rfl) rfl ?_
              refine mx_goto 48 dM_looped_116 rfl ?_
              refine mx_drop 5 ?_
              exact ih
            · refine mx_iconst (1) dM_looped_107 (by decide) ?_
              refine mx_goto 112 dM_looped_108 rfl ?_
              first | rw [or_1a h69] at ih | rw [or_1b (And.intro h79 (And.intro h89 h104))] at ih | rw [or_0 (P := ¬ I 3 (2 * u + i) ≤ 0 ∧ I 4 (2 * u + i) = 0 ∧ f (I 3 (2 * u + i)).toNatClampNeg = 0) h69 (fun q => q.1 h79)] at ih | rw [or_0 (P := ¬ I 3 (2 * u + i) ≤ 0 ∧ I 4 (2 * u + i) = 0 ∧ f (I 3 (2 * u + i)).toNatClampNeg = 0) h69 (fun q => h89 q.2.1)] at ih | rw [or_0 (P := ¬ I 3 (2 * u + i) ≤ 0 ∧ I 4 (2 * u + i) = 0 ∧ f (I 3 (2 * u + i)).toNatClampNeg = 0) h69 (fun q => h104 q.2.2)] at ih
              refine mx_istore_n dM_looped_112 (Nat.le_of_ble_eq_true rfl) rfl ?_
              refine mx_iinc dM_looped_113 rfl (mx_inc _) (Nat.le_of_ble_eq_true rfl) rfl ?_
              refine mx_goto 48 dM_looped_116 rfl ?_
              refine mx_drop 5 ?_
              exact ih
  have lC2 : ∀ (r : Nat) (f : Nat → Int32), mx_W mx_K mT mCl jM_looped (mR 1 21) 145 [.ref 0, .int (nI r), .int (nI (c + 1)), .retAddr 0, .retAddr 0, .retAddr 0] [] (rp thr (nI c) (upI I 13 (rLr c I r f))) Q → ∀ i, i ≤ c → mx_W mx_K mT mCl jM_looped (mR 1 21) 35 [.ref 0, .int (nI r), .int (nI (i + 1)), .retAddr 0, .retAddr 0, .retAddr 0] [] (rp thr (nI c) (upI I 13 (lp (rLg I) i f))) Q := by
    intro r f hk
    refine lp_down ?_ ?_
    · refine mx_iload_n dM_looped_35 rfl ?_
      refine mx_aload_n dM_looped_36 rfl ?_
      refine mx_get 8 1 dM_looped_37 fgM_53 rfl rfl ?_
      refine mx_icmp_gt 145 dM_looped_40 rfl (fun h40 => ?_) (fun h40 => ?_)
      rotate_left
      · exact absurd (nI_lt (Nat.lt_succ_self c) (by omega)) h40
      exact hk
    · intro i hi ih
      have ih : mx_W mx_K mT mCl jM_looped (mR 1 21) 35 [.ref 0, .int (nI r), .int (nI (i + 1 + 1)), .retAddr 0, .retAddr 0, .retAddr 0] [] (rp thr (nI c) (upI I 13 (rLg I i (lp (rLg I) i f)))) Q := ih
      generalize lp (rLg I) i f = f at ih ⊢
      unfold rLg at ih
      refine mx_iload_n dM_looped_35 rfl ?_
      refine mx_aload_n dM_looped_36 rfl ?_
      refine mx_get 8 1 dM_looped_37 fgM_53 rfl rfl ?_
      refine mx_icmp_gt 145 dM_looped_40 rfl (fun h40 => ?_) (fun h40 => ?_)
      · exact absurd h40 (nI_nlt (by omega) (by omega))
      refine mx_iconst (0) dM_looped_43 (by decide) ?_
      refine mx_istore_n dM_looped_44 (Nat.le_of_ble_eq_true rfl) rfl ?_
      refine mx_iconst (0) dM_looped_45 (by decide) ?_
      refine mx_istore dM_looped_46 (Nat.le_of_ble_eq_true rfl) rfl ?_
      refine lC1 r i f hi ?_ 0 (Nat.zero_le _)
      refine mx_aload_n dM_looped_119 rfl ?_
      refine mx_get 8 14 dM_looped_120 fgM_46 rfl rfl ?_
      refine mx_iload_n dM_looped_123 rfl ?_
      refine mx_iload_n dM_looped_124 rfl ?_
      refine mx_if_eq 137 dM_looped_125 rfl (fun h125 => ?_) (fun h125 => ?_)
      · refine mx_iconst (1) dM_looped_137 (by decide) ?_
        refine mx_iast dM_looped_138 rfl (vp_in_nI (by omega) (by decide)) ?_
        first | rw [if_pos (i01_nz h125)] at ih | rw [i01_z h125, if_neg (by decide)] at ih
        rw [nI_clamp (by omega)]
        refine mx_iinc dM_looped_139 rfl (mx_inc _) (Nat.le_of_ble_eq_true rfl) rfl ?_
        refine mx_goto 35 dM_looped_142 rfl ?_
        refine mx_drop 3 ?_
        refine mx_drop 4 ?_
        refine mx_eqs rfl rfl rfl ?_ ih
        rw [← upI_upI I 13 f]
        rfl
      · refine mx_aload_n dM_looped_128 rfl ?_
        refine mx_get 8 14 dM_looped_129 fgM_46 rfl rfl ?_
        refine mx_iload_n dM_looped_132 rfl ?_
        refine mx_iald dM_looped_133 rfl (vp_in_nI (by omega) (by decide)) ?_
        rw [nI_clamp (by omega)]
        try simp only [upI_self]
        refine mx_goto 138 dM_looped_134 rfl ?_
        refine mx_iast dM_looped_138 rfl (vp_in_nI (by omega) (by decide)) ?_
        first | rw [if_pos (i01_nz h125)] at ih | rw [i01_z h125, if_neg (by decide)] at ih
        rw [nI_clamp (by omega)]
        refine mx_iinc dM_looped_139 rfl (mx_inc _) (Nat.le_of_ble_eq_true rfl) rfl ?_
        refine mx_goto 35 dM_looped_142 rfl ?_
        refine mx_drop 3 ?_
        refine mx_drop 4 ?_
        refine mx_eqs rfl rfl rfl ?_ ih
        rw [← upI_upI I 13 f]
        rfl
  have lC3 : ∀ i, i ≤ c → mx_W mx_K mT mCl jM_looped (mR 1 21) 25 [.ref 0, .int (nI i), .retAddr 0, .retAddr 0, .retAddr 0, .retAddr 0] [] (rp thr (nI c) (upI I 13 (lp (rLr c I) i (rLo0 c (I 13))))) Q := by
    refine lp_down ?_ ?_
    · refine mx_iload_n dM_looped_25 rfl ?_
      refine mx_aload_n dM_looped_26 rfl ?_
      refine mx_get 8 1 dM_looped_27 fgM_53 rfl rfl ?_
      refine mx_icmp_ge 151 dM_looped_30 rfl (fun h30 => ?_) (fun h30 => ?_)
      rotate_left
      · exact absurd (nI_le (Nat.le_refl _) (by omega)) h30
      refine mx_iconst (0) dM_looped_151 (by decide) ?_
      refine mx_istore_n dM_looped_152 (Nat.le_of_ble_eq_true rfl) rfl ?_
      refine mx_iconst (1) dM_looped_153 (by decide) ?_
      refine mx_istore_n dM_looped_154 (Nat.le_of_ble_eq_true rfl) rfl ?_
      exact lD 0 (Nat.zero_le _)
    · intro i hi ih
      refine mx_iload_n dM_looped_25 rfl ?_
      refine mx_aload_n dM_looped_26 rfl ?_
      refine mx_get 8 1 dM_looped_27 fgM_53 rfl rfl ?_
      refine mx_icmp_ge 151 dM_looped_30 rfl (fun h30 => ?_) (fun h30 => ?_)
      · exact absurd h30 (nI_ge (by omega) (by omega))
      refine mx_iconst (1) dM_looped_33 (by decide) ?_
      refine mx_istore_n dM_looped_34 (Nat.le_of_ble_eq_true rfl) rfl ?_
      refine lC2 i _ ?_ 0 (Nat.zero_le _)
      refine mx_iinc dM_looped_145 rfl (mx_inc _) (Nat.le_of_ble_eq_true rfl) rfl ?_
      refine mx_goto 25 dM_looped_148 rfl ?_
      refine mx_drop 2 ?_
      exact ih
  have lA : ∀ i, i ≤ c → mx_W mx_K mT mCl jM_looped (mR 1 21) 2 [.ref 0, .int (nI (i + 1)), .retAddr 0, .retAddr 0, .retAddr 0, .retAddr 0] [] (rp thr (nI c) (upI I 13 (lp rLz i (I 13)))) Q := by
    refine lp_down ?_ ?_
    · refine mx_iload_n dM_looped_2 rfl ?_
      refine mx_aload_n dM_looped_3 rfl ?_
      refine mx_get 8 1 dM_looped_4 fgM_53 rfl rfl ?_
      refine mx_icmp_gt 23 dM_looped_7 rfl (fun h7 => ?_) (fun h7 => ?_)
      rotate_left
      · exact absurd (nI_lt (Nat.lt_succ_self c) (by omega)) h7
      refine mx_iconst (0) dM_looped_23 (by decide) ?_
      refine mx_istore_n dM_looped_24 (Nat.le_of_ble_eq_true rfl) rfl ?_
      exact lC3 0 (Nat.zero_le _)
    · intro i hi ih
      have ih : mx_W mx_K mT mCl jM_looped (mR 1 21) 2 [.ref 0, .int (nI (i + 1 + 1)), .retAddr 0, .retAddr 0, .retAddr 0, .retAddr 0] [] (rp thr (nI c) (upI I 13 (rLz i (lp rLz i (I 13))))) Q := ih
      generalize lp rLz i (I 13) = f at ih ⊢
      unfold rLz at ih
      refine mx_iload_n dM_looped_2 rfl ?_
      refine mx_aload_n dM_looped_3 rfl ?_
      refine mx_get 8 1 dM_looped_4 fgM_53 rfl rfl ?_
      refine mx_icmp_gt 23 dM_looped_7 rfl (fun h7 => ?_) (fun h7 => ?_)
      · exact absurd h7 (nI_nlt (by omega) (by omega))
      refine mx_aload_n dM_looped_10 rfl ?_
      refine mx_get 8 14 dM_looped_11 fgM_46 rfl rfl ?_
      refine mx_iload_n dM_looped_14 rfl ?_
      refine mx_iconst (0) dM_looped_15 (by decide) ?_
      refine mx_iast dM_looped_16 rfl (vp_in_nI (by omega) (by decide)) ?_
      rw [nI_clamp (by omega)]
      refine mx_iinc dM_looped_17 rfl (mx_inc _) (Nat.le_of_ble_eq_true rfl) rfl ?_
      refine mx_goto 2 dM_looped_20 rfl ?_
      refine mx_eqs rfl rfl rfl ?_ ih
      rw [← upI_upI I 13 f]
      rfl
  refine mx_iconst (1) dM_looped_0 (by decide) ?_
  refine mx_istore_n dM_looped_1 (Nat.le_of_ble_eq_true rfl) rfl ?_
  refine mx_eqs rfl rfl rfl ?_ (lA 0 (Nat.zero_le _))
  rw [lp_zero, upI_own]
def rDrv (I : Nat → Nat → Int32) (u : Nat) : Bool := exB 27 (fun j => decide (I 3 j = nI (u + 1)))
def rPns (I : Nat → Nat → Int32) (u : Nat) : Bool := allB (pn (I 1) (u + 1)) (fun k => decide (¬ I 3 (2 * u + k) = 0))
def rCmp (c : Nat) (I : Nat → Nat → Int32) : Bool := allB c (fun u => rDrv I u && rPns I u)
def rSnd (c : Nat) (I : Nat → Nat → Int32) : Bool := rCmp c I && !rLoop c I
def rSnI (c : Nat) (I : Nat → Nat → Int32) : Nat → Nat → Int32 := if rCmp c I = true then upI I 13 (rOut c I) else I
theorem rSnI_ne {c : Nat} {I : Nat → Nat → Int32} {j : Nat} (h : j ≠ 13) : rSnI c I j = I j := by
  unfold rSnI
  split
  · exact upI_ne _ _ h
  · rfl
theorem cM_isSound {c : Nat} {thr : Int32} {I : Nat → Nat → Int32} {Q : mx_O → List va_E → Prop} (hc : c ≤ 12) (hfr : ∀ w, w < 27 → I 3 w ≤ 12) (hQ : Q (.inl (some (.int (i01 (rSnd c I))))) (rp thr (nI c) (rSnI c I))) : mx_W mx_K mT mCl jM_isSound (mR 2 46) 0 [.ref 0, .retAddr 0, .retAddr 0, .retAddr 0, .retAddr 0] [] (rp thr (nI c) I) Q := by
  have l1 : ∀ (b : Bool) (u : Nat), u < c → mx_W mx_K mT mCl jM_isSound (mR 2 46) 51 [.ref 0, .int (i01 b), .int (nI (u + 1)), .int (i01 (rDrv I u)), .int (nI 27)] [] (rp thr (nI c) I) Q → ∀ i, i ≤ 27 → mx_W mx_K mT mCl jM_isSound (mR 2 46) 17 [.ref 0, .int (i01 b), .int (nI (u + 1)), .int (i01 (exB i (fun j => decide (I 3 j = nI (u + 1))))), .int (nI i)] [] (rp thr (nI c) I) Q := by
    intro b u hu hk
    refine lp_down ?_ ?_
    · refine mx_iload dM_isSound_17 rfl ?_
      refine mx_bipush (27) dM_isSound_19 (by decide) ?_
      refine mx_icmp_ge 51 dM_isSound_21 rfl (fun h21 => ?_) (fun h21 => ?_)
      rotate_left
      · exact absurd (show (27 : Int32) ≤ nI 27 by decide) h21
      unfold rDrv at hk
      exact hk
    · intro i hi ih
      rw [exB_succ] at ih
      refine mx_iload dM_isSound_17 rfl ?_
      refine mx_bipush (27) dM_isSound_19 (by decide) ?_
      refine mx_icmp_ge 51 dM_isSound_21 rfl (fun h21 => ?_) (fun h21 => ?_)
      · exact absurd h21 (nI_ge (b := 27) hi (by decide))
      refine mx_iload_n dM_isSound_24 rfl ?_
      refine mx_if_ne 39 dM_isSound_25 rfl (fun h25 => ?_) (fun h25 => ?_)
      · refine mx_iconst (1) dM_isSound_39 (by decide) ?_
        refine mx_goto 44 dM_isSound_40 rfl ?_
        first | rw [or_1a h25] at ih | rw [or_1b h36] at ih | rw [or_0 h25 h36] at ih
        refine mx_istore_n dM_isSound_44 (Nat.le_of_ble_eq_true rfl) rfl ?_
        refine mx_iinc dM_isSound_45 rfl (mx_inc _) (Nat.le_of_ble_eq_true rfl) rfl ?_
        refine mx_goto 17 dM_isSound_48 rfl ?_
        exact ih
      · refine mx_aload_n dM_isSound_28 rfl ?_
        refine mx_get 8 4 dM_isSound_29 fgM_16 rfl rfl ?_
        refine mx_iload dM_isSound_32 rfl ?_
        refine mx_iald dM_isSound_34 rfl (vp_in_nI (by omega) (by decide)) ?_
        rw [nI_clamp (by omega)]
        try simp only [upI_self]
        refine mx_iload_n dM_isSound_35 rfl ?_
        refine mx_icmp_ne 43 dM_isSound_36 rfl (fun h36 => ?_) (fun h36 => ?_)
        · refine mx_iconst (0) dM_isSound_43 (by decide) ?_
          first | rw [or_1a h25] at ih | rw [or_1b h36] at ih | rw [or_0 h25 h36] at ih
          refine mx_istore_n dM_isSound_44 (Nat.le_of_ble_eq_true rfl) rfl ?_
          refine mx_iinc dM_isSound_45 rfl (mx_inc _) (Nat.le_of_ble_eq_true rfl) rfl ?_
          refine mx_goto 17 dM_isSound_48 rfl ?_
          exact ih
        · refine mx_iconst (1) dM_isSound_39 (by decide) ?_
          refine mx_goto 44 dM_isSound_40 rfl ?_
          first | rw [or_1a h25] at ih | rw [or_1b h36] at ih | rw [or_0 h25 h36] at ih
          refine mx_istore_n dM_isSound_44 (Nat.le_of_ble_eq_true rfl) rfl ?_
          refine mx_iinc dM_isSound_45 rfl (mx_inc _) (Nat.le_of_ble_eq_true rfl) rfl ?_
          refine mx_goto 17 dM_isSound_48 rfl ?_
          exact ih
  have l2 : ∀ (b : Bool) (d : Int32) (u : Nat), u < c → mx_W mx_K mT mCl jM_isSound (mR 2 46) 110 [.ref 0, .int (i01 (b && rPns I u)), .int (nI (u + 1)), .int (d), .int (nI (pn (I 1) (u + 1)))] [] (rp thr (nI c) I) Q → ∀ i, i ≤ pn (I 1) (u + 1) → mx_W mx_K mT mCl jM_isSound (mR 2 46) 68 [.ref 0, .int (i01 (b && allB i (fun k => decide (¬ I 3 (2 * u + k) = 0)))), .int (nI (u + 1)), .int (d), .int (nI i)] [] (rp thr (nI c) I) Q := by
    intro b d u hu hk
    have hp := pn_le (I 1) (u + 1)
    refine lp_down ?_ ?_
    · refine mx_iload dM_isSound_68 rfl ?_
      refine mx_aload_n dM_isSound_70 rfl ?_
      refine mx_iload_n dM_isSound_71 rfl ?_
      refine mx_V1 (R' := (mR 0 0)) [_] _ dM_isSound_72 rfl mT_G jM_pins_ok jM_pins_v lkM_63 ⟨rfl, rfl, Nat.le_of_ble_eq_true rfl, Nat.le_of_ble_eq_true rfl⟩ rfl rfl (Nat.le_of_ble_eq_true rfl) (Nat.le_of_ble_eq_true rfl) rfl rfl rfl (fun Qc qc => cM_pins (vp_in_nI (by omega) (by decide)) qc) ?_
      rw [pn_nat (by omega)]
      refine mx_icmp_ge 110 dM_isSound_75 rfl (fun h75 => ?_) (fun h75 => ?_)
      rotate_left
      · exact absurd (nI_le (Nat.le_refl _) (by omega)) h75
      unfold rPns at hk
      exact hk
    · intro i hi ih
      rw [allB_succ, ← Bool.and_assoc] at ih
      refine mx_iload dM_isSound_68 rfl ?_
      refine mx_aload_n dM_isSound_70 rfl ?_
      refine mx_iload_n dM_isSound_71 rfl ?_
      refine mx_V1 (R' := (mR 0 0)) [_] _ dM_isSound_72 rfl mT_G jM_pins_ok jM_pins_v lkM_63 ⟨rfl, rfl, Nat.le_of_ble_eq_true rfl, Nat.le_of_ble_eq_true rfl⟩ rfl rfl (Nat.le_of_ble_eq_true rfl) (Nat.le_of_ble_eq_true rfl) rfl rfl rfl (fun Qc qc => cM_pins (vp_in_nI (by omega) (by decide)) qc) ?_
      rw [pn_nat (by omega)]
      refine mx_icmp_ge 110 dM_isSound_75 rfl (fun h75 => ?_) (fun h75 => ?_)
      · exact absurd h75 (nI_ge (by omega) (by omega))
      refine mx_iload_n dM_isSound_78 rfl ?_
      refine mx_if_eq 102 dM_isSound_79 rfl (fun h79 => ?_) (fun h79 => ?_)
      · refine mx_iconst (0) dM_isSound_102 (by decide) ?_
        first | rw [and_0a h79] at ih | rw [and_1p h79 h95] at ih | rw [and_0p (fun q => q h95)] at ih
        refine mx_istore_n dM_isSound_103 (Nat.le_of_ble_eq_true rfl) rfl ?_
        refine mx_iinc dM_isSound_104 rfl (mx_inc _) (Nat.le_of_ble_eq_true rfl) rfl ?_
        refine mx_goto 68 dM_isSound_107 rfl ?_
        exact ih
      · refine mx_aload_n dM_isSound_82 rfl ?_
        refine mx_get 8 4 dM_isSound_83 fgM_16 rfl rfl ?_
        refine mx_iconst (2) dM_isSound_86 (by decide) ?_
        refine mx_iload_n dM_isSound_87 rfl ?_
        refine mx_imul dM_isSound_88 ?_
        refine mx_iconst (2) dM_isSound_89 (by decide) ?_
        refine mx_isub dM_isSound_90 ?_
        refine mx_iload dM_isSound_91 rfl ?_
        refine mx_iadd dM_isSound_93 ?_
        rw [show (2 : Int32) = nI 2 from rfl, pk_mul, pk_sub (by omega), nI_add, show 2 * (u + 1) - 2 + i = 2 * u + i from by omega]
        refine mx_iald dM_isSound_94 rfl (vp_in_nI (by omega) (by decide)) ?_
        rw [nI_clamp (by omega)]
        try simp only [upI_self]
        refine mx_if_eq 102 dM_isSound_95 rfl (fun h95 => ?_) (fun h95 => ?_)
        · refine mx_iconst (0) dM_isSound_102 (by decide) ?_
          first | rw [and_0a h79] at ih | rw [and_1p h79 h95] at ih | rw [and_0p (fun q => q h95)] at ih
          refine mx_istore_n dM_isSound_103 (Nat.le_of_ble_eq_true rfl) rfl ?_
          refine mx_iinc dM_isSound_104 rfl (mx_inc _) (Nat.le_of_ble_eq_true rfl) rfl ?_
          refine mx_goto 68 dM_isSound_107 rfl ?_
          exact ih
        · refine mx_iconst (1) dM_isSound_98 (by decide) ?_
          refine mx_goto 103 dM_isSound_99 rfl ?_
          first | rw [and_0a h79] at ih | rw [and_1p h79 h95] at ih | rw [and_0p (fun q => q h95)] at ih
          refine mx_istore_n dM_isSound_103 (Nat.le_of_ble_eq_true rfl) rfl ?_
          refine mx_iinc dM_isSound_104 rfl (mx_inc _) (Nat.le_of_ble_eq_true rfl) rfl ?_
          refine mx_goto 68 dM_isSound_107 rfl ?_
          exact ih
  have l3 : ∀ i, i ≤ c → mx_W mx_K mT mCl jM_isSound (mR 2 46) 4 [.ref 0, .int (i01 (allB i (fun u => rDrv I u && rPns I u))), .int (nI (i + 1)), .retAddr 0, .retAddr 0] [] (rp thr (nI c) I) Q := by
    refine lp_down ?_ ?_
    · unfold rSnd rSnI rCmp at hQ
      refine mx_iload_n dM_isSound_4 rfl ?_
      refine mx_aload_n dM_isSound_5 rfl ?_
      refine mx_get 8 1 dM_isSound_6 fgM_53 rfl rfl ?_
      refine mx_icmp_gt 116 dM_isSound_9 rfl (fun h9 => ?_) (fun h9 => ?_)
      rotate_left
      · exact absurd (nI_lt (Nat.lt_succ_self c) (by omega)) h9
      refine mx_iload_n dM_isSound_116 rfl ?_
      refine mx_if_eq 131 dM_isSound_117 rfl (fun h117 => ?_) (fun h117 => ?_)
      · refine mx_iconst (0) dM_isSound_131 (by decide) ?_
        refine mx_iret dM_isSound_132 rfl rfl ?_
        first
          | (rw [i01_z h117, if_neg (by decide)] at hQ; exact hQ)
          | (rw [i01_nz h117, if_pos rfl, i01_nz h124] at hQ; exact hQ)
          | (rw [i01_nz h117, if_pos rfl, i01_z h124] at hQ; exact hQ)
      · refine mx_aload_n dM_isSound_120 rfl ?_
        refine mx_V1 (R' := (mR 1 21)) [] _ dM_isSound_121 rfl mT_G jM_looped_ok jM_looped_v lkM_88 ⟨rfl, rfl, Nat.le_of_ble_eq_true rfl, Nat.le_of_ble_eq_true rfl⟩ rfl rfl (Nat.le_of_ble_eq_true rfl) (Nat.le_of_ble_eq_true rfl) rfl rfl rfl (fun Qc qc => cM_looped hc hfr qc) ?_
        refine mx_if_ne 131 dM_isSound_124 rfl (fun h124 => ?_) (fun h124 => ?_)
        · refine mx_iconst (0) dM_isSound_131 (by decide) ?_
          refine mx_iret dM_isSound_132 rfl rfl ?_
          first
            | (rw [i01_z h117, if_neg (by decide)] at hQ; exact hQ)
            | (rw [i01_nz h117, if_pos rfl, i01_nz h124] at hQ; exact hQ)
            | (rw [i01_nz h117, if_pos rfl, i01_z h124] at hQ; exact hQ)
        · refine mx_iconst (1) dM_isSound_127 (by decide) ?_
          refine mx_goto 132 dM_isSound_128 rfl ?_
          refine mx_iret dM_isSound_132 rfl rfl ?_
          first
            | (rw [i01_z h117, if_neg (by decide)] at hQ; exact hQ)
            | (rw [i01_nz h117, if_pos rfl, i01_nz h124] at hQ; exact hQ)
            | (rw [i01_nz h117, if_pos rfl, i01_z h124] at hQ; exact hQ)
    · intro i hi ih
      rw [allB_succ, ← Bool.and_assoc] at ih
      refine mx_iload_n dM_isSound_4 rfl ?_
      refine mx_aload_n dM_isSound_5 rfl ?_
      refine mx_get 8 1 dM_isSound_6 fgM_53 rfl rfl ?_
      refine mx_icmp_gt 116 dM_isSound_9 rfl (fun h9 => ?_) (fun h9 => ?_)
      · exact absurd h9 (nI_nlt (by omega) (by omega))
      refine mx_iconst (0) dM_isSound_12 (by decide) ?_
      refine mx_istore_n dM_isSound_13 (Nat.le_of_ble_eq_true rfl) rfl ?_
      refine mx_iconst (0) dM_isSound_14 (by decide) ?_
      refine mx_istore dM_isSound_15 (Nat.le_of_ble_eq_true rfl) rfl ?_
      have l2i := l2 (allB i (fun u => rDrv I u && rPns I u) && rDrv I i) (i01 (rDrv I i)) i hi (by
        refine mx_iinc dM_isSound_110 rfl (mx_inc _) (Nat.le_of_ble_eq_true rfl) rfl ?_
        refine mx_goto 4 dM_isSound_113 rfl ?_
        refine mx_drop 3 ?_
        refine mx_drop 4 ?_
        exact ih) 0 (Nat.zero_le _)
      rw [show allB 0 (fun k => decide (¬ I 3 (2 * i + k) = 0)) = true from rfl, Bool.and_true] at l2i
      refine l1 _ i hi ?_ 0 (Nat.zero_le _)
      refine mx_iload_n dM_isSound_51 rfl ?_
      refine mx_if_eq 63 dM_isSound_52 rfl (fun h52 => ?_) (fun h52 => ?_)
      · refine mx_iconst (0) dM_isSound_63 (by decide) ?_
        first | rw [and_0a (b := rDrv I i) h52] at l2i | rw [and_1 h52 h56] at l2i | rw [and_0b h56] at l2i
        refine mx_istore_n dM_isSound_64 (Nat.le_of_ble_eq_true rfl) rfl ?_
        refine mx_iconst (0) dM_isSound_65 (by decide) ?_
        refine mx_istore dM_isSound_66 (Nat.le_of_ble_eq_true rfl) rfl ?_
        exact l2i
      · refine mx_iload_n dM_isSound_55 rfl ?_
        refine mx_if_eq 63 dM_isSound_56 rfl (fun h56 => ?_) (fun h56 => ?_)
        · refine mx_iconst (0) dM_isSound_63 (by decide) ?_
          first | rw [and_0a (b := rDrv I i) h52] at l2i | rw [and_1 h52 h56] at l2i | rw [and_0b h56] at l2i
          refine mx_istore_n dM_isSound_64 (Nat.le_of_ble_eq_true rfl) rfl ?_
          refine mx_iconst (0) dM_isSound_65 (by decide) ?_
          refine mx_istore dM_isSound_66 (Nat.le_of_ble_eq_true rfl) rfl ?_
          exact l2i
        · refine mx_iconst (1) dM_isSound_59 (by decide) ?_
          refine mx_goto 64 dM_isSound_60 rfl ?_
          first | rw [and_0a (b := rDrv I i) h52] at l2i | rw [and_1 h52 h56] at l2i | rw [and_0b h56] at l2i
          refine mx_istore_n dM_isSound_64 (Nat.le_of_ble_eq_true rfl) rfl ?_
          refine mx_iconst (0) dM_isSound_65 (by decide) ?_
          refine mx_istore dM_isSound_66 (Nat.le_of_ble_eq_true rfl) rfl ?_
          exact l2i
  refine mx_iconst (1) dM_isSound_0 (by decide) ?_
  refine mx_istore_n dM_isSound_1 (Nat.le_of_ble_eq_true rfl) rfl ?_
  refine mx_iconst (1) dM_isSound_2 (by decide) ?_
  refine mx_istore_n dM_isSound_3 (Nat.le_of_ble_eq_true rfl) rfl ?_
  exact l3 0 (Nat.zero_le _)
