/-! The reference: measure, looped, isSound, sound, period, weight, delay. -/
theorem fr_nat {x : Int32} (h : x ≤ 12) (h0 : ¬ x ≤ 0) : ∃ g, 1 ≤ g ∧ g < 13 ∧ x = nI g := by
  obtain ⟨g, hg, e⟩ := i32_nat (r := x) (m := 13) (n := 13) (by rw [Int32.lt_iff_toInt_lt]; rw [Int32.le_iff_toInt_le] at h0; have h0 : ¬ x.toInt ≤ 0 := h0; show ¬ x.toInt < 0; omega) (by rw [Int32.le_iff_toInt_le] at h ⊢; have h : x.toInt ≤ 12 := h; show ¬ (13 : Int) ≤ x.toInt; omega) (by decide) (by decide)
  refine ⟨g, ?_, hg, e⟩
  by_cases e0 : g = 0
  · subst e0; rw [e] at h0; exact absurd (by decide) h0
  · omega
def rM1 (u v : Nat) (f : Nat → Int32) : Nat → Int32 := upd f (13 * (u + 1) + (v + 1)) (if u = v then 0 else 100000000)
def rM1c (c : Nat) (f : Nat → Int32) : Nat → Int32 := lp (fun u f => lp (rM1 u) c f) c f
def rM2 (I : Nat → Nat → Int32) (i : Nat) (f : Nat → Int32) : Nat → Int32 := if I 3 i ≤ 0 then f else if nI (gbf i) = I 3 i then f else upd f (13 * (I 3 i).toNatClampNeg + gbf i) (if f (13 * (I 3 i).toNatClampNeg + gbf i) ≤ 1024 * I 4 i - I 2 (I 3 i).toNatClampNeg then f (13 * (I 3 i).toNatClampNeg + gbf i) else 1024 * I 4 i - I 2 (I 3 i).toNatClampNeg)
def rM3 (m u v : Nat) (f : Nat → Int32) : Nat → Int32 := if 100000000 ≤ f (13 * (u + 1) + (m + 1)) then f else if 100000000 ≤ f (13 * (m + 1) + (v + 1)) then f else if f (13 * (u + 1) + (v + 1)) ≤ f (13 * (u + 1) + (m + 1)) + f (13 * (m + 1) + (v + 1)) then f else upd f (13 * (u + 1) + (v + 1)) (f (13 * (u + 1) + (m + 1)) + f (13 * (m + 1) + (v + 1)))
def rM2c (c : Nat) (I : Nat → Nat → Int32) : Nat → Int32 := lp (rM2 I) 24 (rM1c c (I 12))
def rM3u (c m u : Nat) (f : Nat → Int32) : Nat → Int32 := lp (rM3 m u) c f
def rM3m (c m : Nat) (f : Nat → Int32) : Nat → Int32 := lp (rM3u c m) c f
def rMeas (c : Nat) (I : Nat → Nat → Int32) : Nat → Int32 := lp (rM3m c) c (rM2c c I)
theorem cM_measure {c : Nat} {thr : Int32} {I : Nat → Nat → Int32} {Q : mx_O → List va_E → Prop} (hc : c ≤ 12) (hfr : ∀ w, w < 27 → I 3 w ≤ 12) (hQ : Q (.inl none) (rp thr (nI c) (upI I 12 (rMeas c I)))) : mx_W mx_K mT mCl jM_measure (mR 1 20) 0 [.ref 0, .retAddr 0, .retAddr 0, .retAddr 0, .retAddr 0, .retAddr 0] [] (rp thr (nI c) I) Q := by
  have lC1 : ∀ (m u : Nat) (f : Nat → Int32), m < c → u < c → mx_W mx_K mT mCl jM_measure (mR 1 20) 262 [.ref 0, .int (nI (m + 1)), .int (nI (u + 1)), .int (nI (c + 1)), .retAddr 0, .retAddr 0] [] (rp thr (nI c) (upI I 12 (rM3u c m u f))) Q → ∀ i, i ≤ c → mx_W mx_K mT mCl jM_measure (mR 1 20) 173 [.ref 0, .int (nI (m + 1)), .int (nI (u + 1)), .int (nI (i + 1)), .retAddr 0, .retAddr 0] [] (rp thr (nI c) (upI I 12 (lp (rM3 m u) i f))) Q := by
    intro m u f hm hu hk
    refine lp_down ?_ ?_
    · refine mx_iload_n dM_measure_173 rfl ?_
      refine mx_aload_n dM_measure_174 rfl ?_
      refine mx_get 8 1 dM_measure_175 fgM_53 rfl rfl ?_
      refine mx_icmp_gt 262 dM_measure_178 rfl (fun h178 => ?_) (fun h178 => ?_)
      rotate_left
      · exact absurd (nI_lt (Nat.lt_succ_self c) (by omega)) h178
      exact hk
    · intro i hi ih
      have ih : mx_W mx_K mT mCl jM_measure (mR 1 20) 173 [.ref 0, .int (nI (m + 1)), .int (nI (u + 1)), .int (nI (i + 1 + 1)), .retAddr 0, .retAddr 0] [] (rp thr (nI c) (upI I 12 (rM3 m u i (lp (rM3 m u) i f)))) Q := ih
      generalize lp (rM3 m u) i f = f at ih ⊢
      unfold rM3 at ih
      refine mx_iload_n dM_measure_173 rfl ?_
      refine mx_aload_n dM_measure_174 rfl ?_
      refine mx_get 8 1 dM_measure_175 fgM_53 rfl rfl ?_
      refine mx_icmp_gt 262 dM_measure_178 rfl (fun h178 => ?_) (fun h178 => ?_)
      · exact absurd h178 (nI_nlt (by omega) (by omega))
      refine mx_aload_n dM_measure_181 rfl ?_
      refine mx_get 8 13 dM_measure_182 fgM_43 rfl rfl ?_
      refine mx_bipush (13) dM_measure_185 (by decide) ?_
      refine mx_iload_n dM_measure_187 rfl ?_
      refine mx_imul dM_measure_188 ?_
      refine mx_iload_n dM_measure_189 rfl ?_
      refine mx_iadd dM_measure_190 ?_
      rw [show (13 : Int32) = nI 13 from rfl, pk_mul, nI_add]
      refine mx_iald dM_measure_191 rfl (vp_in_nI (by omega) (by decide)) ?_
      rw [nI_clamp (by omega)]
      try simp only [upI_self]
      refine mx_istore dM_measure_192 (Nat.le_of_ble_eq_true rfl) rfl ?_
      refine mx_aload_n dM_measure_194 rfl ?_
      refine mx_get 8 13 dM_measure_195 fgM_43 rfl rfl ?_
      refine mx_bipush (13) dM_measure_198 (by decide) ?_
      refine mx_iload_n dM_measure_200 rfl ?_
      refine mx_imul dM_measure_201 ?_
      refine mx_iload_n dM_measure_202 rfl ?_
      refine mx_iadd dM_measure_203 ?_
      rw [show (13 : Int32) = nI 13 from rfl, pk_mul, nI_add]
      refine mx_iald dM_measure_204 rfl (vp_in_nI (by omega) (by decide)) ?_
      rw [nI_clamp (by omega)]
      try simp only [upI_self]
      refine mx_istore dM_measure_205 (Nat.le_of_ble_eq_true rfl) rfl ?_
      refine mx_iload dM_measure_207 rfl ?_
      refine mx_ldc dM_measure_209 (mT_4 (i := 87) rfl rfl) ?_
      refine mx_icmp_ge 256 dM_measure_211 rfl (fun h211 => ?_) (fun h211 => ?_)
      · first | rw [if_pos h211] at ih | rw [if_neg h211, if_pos h218] at ih | rw [if_neg h211, if_neg h218, if_pos h237] at ih | rw [if_neg h211, if_neg h218, if_neg h237] at ih
        try rw [nI_clamp (by omega)]
        refine mx_iinc dM_measure_256 rfl (mx_inc _) (Nat.le_of_ble_eq_true rfl) rfl ?_
        refine mx_goto 173 dM_measure_259 rfl ?_
        refine mx_drop 4 ?_
        refine mx_drop 5 ?_
        first | exact ih | (refine mx_eqs rfl rfl rfl ?_ ih; rw [← upI_upI I 12 f]; rfl)
      · refine mx_iload dM_measure_214 rfl ?_
        refine mx_ldc dM_measure_216 (mT_4 (i := 87) rfl rfl) ?_
        refine mx_icmp_ge 256 dM_measure_218 rfl (fun h218 => ?_) (fun h218 => ?_)
        · first | rw [if_pos h211] at ih | rw [if_neg h211, if_pos h218] at ih | rw [if_neg h211, if_neg h218, if_pos h237] at ih | rw [if_neg h211, if_neg h218, if_neg h237] at ih
          try rw [nI_clamp (by omega)]
          refine mx_iinc dM_measure_256 rfl (mx_inc _) (Nat.le_of_ble_eq_true rfl) rfl ?_
          refine mx_goto 173 dM_measure_259 rfl ?_
          refine mx_drop 4 ?_
          refine mx_drop 5 ?_
          first | exact ih | (refine mx_eqs rfl rfl rfl ?_ ih; rw [← upI_upI I 12 f]; rfl)
        · refine mx_iload dM_measure_221 rfl ?_
          refine mx_iload dM_measure_223 rfl ?_
          refine mx_iadd dM_measure_225 ?_
          refine mx_aload_n dM_measure_226 rfl ?_
          refine mx_get 8 13 dM_measure_227 fgM_43 rfl rfl ?_
          refine mx_bipush (13) dM_measure_230 (by decide) ?_
          refine mx_iload_n dM_measure_232 rfl ?_
          refine mx_imul dM_measure_233 ?_
          refine mx_iload_n dM_measure_234 rfl ?_
          refine mx_iadd dM_measure_235 ?_
          rw [show (13 : Int32) = nI 13 from rfl, pk_mul, nI_add]
          refine mx_iald dM_measure_236 rfl (vp_in_nI (by omega) (by decide)) ?_
          rw [nI_clamp (by omega)]
          try simp only [upI_self]
          refine mx_icmp_ge 256 dM_measure_237 rfl (fun h237 => ?_) (fun h237 => ?_)
          · first | rw [if_pos h211] at ih | rw [if_neg h211, if_pos h218] at ih | rw [if_neg h211, if_neg h218, if_pos h237] at ih | rw [if_neg h211, if_neg h218, if_neg h237] at ih
            try rw [nI_clamp (by omega)]
            refine mx_iinc dM_measure_256 rfl (mx_inc _) (Nat.le_of_ble_eq_true rfl) rfl ?_
            refine mx_goto 173 dM_measure_259 rfl ?_
            refine mx_drop 4 ?_
            refine mx_drop 5 ?_
            first | exact ih | (refine mx_eqs rfl rfl rfl ?_ ih; rw [← upI_upI I 12 f]; rfl)
          · refine mx_aload_n dM_measure_240 rfl ?_
            refine mx_get 8 13 dM_measure_241 fgM_43 rfl rfl ?_
            refine mx_bipush (13) dM_measure_244 (by decide) ?_
            refine mx_iload_n dM_measure_246 rfl ?_
            refine mx_imul dM_measure_247 ?_
            refine mx_iload_n dM_measure_248 rfl ?_
            refine mx_iadd dM_measure_249 ?_
            rw [show (13 : Int32) = nI 13 from rfl, pk_mul, nI_add]
            refine mx_iload dM_measure_250 rfl ?_
            refine mx_iload dM_measure_252 rfl ?_
            refine mx_iadd dM_measure_254 ?_
            refine mx_iast dM_measure_255 rfl (vp_in_nI (by omega) (by decide)) ?_
            first | rw [if_pos h211] at ih | rw [if_neg h211, if_pos h218] at ih | rw [if_neg h211, if_neg h218, if_pos h237] at ih | rw [if_neg h211, if_neg h218, if_neg h237] at ih
            try rw [nI_clamp (by omega)]
            refine mx_iinc dM_measure_256 rfl (mx_inc _) (Nat.le_of_ble_eq_true rfl) rfl ?_
            refine mx_goto 173 dM_measure_259 rfl ?_
            refine mx_drop 4 ?_
            refine mx_drop 5 ?_
            first | exact ih | (refine mx_eqs rfl rfl rfl ?_ ih; rw [← upI_upI I 12 f]; rfl)
  have lC2 : ∀ (m : Nat) (f : Nat → Int32), m < c → mx_W mx_K mT mCl jM_measure (mR 1 20) 268 [.ref 0, .int (nI (m + 1)), .int (nI (c + 1)), .retAddr 0, .retAddr 0, .retAddr 0] [] (rp thr (nI c) (upI I 12 (rM3m c m f))) Q → ∀ i, i ≤ c → mx_W mx_K mT mCl jM_measure (mR 1 20) 163 [.ref 0, .int (nI (m + 1)), .int (nI (i + 1)), .retAddr 0, .retAddr 0, .retAddr 0] [] (rp thr (nI c) (upI I 12 (lp (rM3u c m) i f))) Q := by
    intro m f hm hk
    refine lp_down ?_ ?_
    · refine mx_iload_n dM_measure_163 rfl ?_
      refine mx_aload_n dM_measure_164 rfl ?_
      refine mx_get 8 1 dM_measure_165 fgM_53 rfl rfl ?_
      refine mx_icmp_gt 268 dM_measure_168 rfl (fun h168 => ?_) (fun h168 => ?_)
      rotate_left
      · exact absurd (nI_lt (Nat.lt_succ_self c) (by omega)) h168
      exact hk
    · intro i hi ih
      refine mx_iload_n dM_measure_163 rfl ?_
      refine mx_aload_n dM_measure_164 rfl ?_
      refine mx_get 8 1 dM_measure_165 fgM_53 rfl rfl ?_
      refine mx_icmp_gt 268 dM_measure_168 rfl (fun h168 => ?_) (fun h168 => ?_)
      · exact absurd h168 (nI_nlt (by omega) (by omega))
      refine mx_iconst (1) dM_measure_171 (by decide) ?_
      refine mx_istore_n dM_measure_172 (Nat.le_of_ble_eq_true rfl) rfl ?_
      refine lC1 m i _ hm hi ?_ 0 (Nat.zero_le _)
      refine mx_iinc dM_measure_262 rfl (mx_inc _) (Nat.le_of_ble_eq_true rfl) rfl ?_
      refine mx_goto 163 dM_measure_265 rfl ?_
      refine mx_drop 3 ?_
      exact ih
  have lC3 : ∀ i, i ≤ c → mx_W mx_K mT mCl jM_measure (mR 1 20) 153 [.ref 0, .int (nI (i + 1)), .retAddr 0, .retAddr 0, .retAddr 0, .retAddr 0] [] (rp thr (nI c) (upI I 12 (lp (rM3m c) i (rM2c c I)))) Q := by
    refine lp_down ?_ ?_
    · refine mx_iload_n dM_measure_153 rfl ?_
      refine mx_aload_n dM_measure_154 rfl ?_
      refine mx_get 8 1 dM_measure_155 fgM_53 rfl rfl ?_
      refine mx_icmp_gt 274 dM_measure_158 rfl (fun h158 => ?_) (fun h158 => ?_)
      rotate_left
      · exact absurd (nI_lt (Nat.lt_succ_self c) (by omega)) h158
      refine mx_vret dM_measure_274 rfl ?_
      exact hQ
    · intro i hi ih
      refine mx_iload_n dM_measure_153 rfl ?_
      refine mx_aload_n dM_measure_154 rfl ?_
      refine mx_get 8 1 dM_measure_155 fgM_53 rfl rfl ?_
      refine mx_icmp_gt 274 dM_measure_158 rfl (fun h158 => ?_) (fun h158 => ?_)
      · exact absurd h158 (nI_nlt (by omega) (by omega))
      refine mx_iconst (1) dM_measure_161 (by decide) ?_
      refine mx_istore_n dM_measure_162 (Nat.le_of_ble_eq_true rfl) rfl ?_
      refine lC2 i _ hi ?_ 0 (Nat.zero_le _)
      refine mx_iinc dM_measure_268 rfl (mx_inc _) (Nat.le_of_ble_eq_true rfl) rfl ?_
      refine mx_goto 153 dM_measure_271 rfl ?_
      refine mx_drop 2 ?_
      exact ih
  have lB : ∀ i, i ≤ 24 → mx_W mx_K mT mCl jM_measure (mR 1 20) 56 [.ref 0, .int (nI i), .retAddr 0, .retAddr 0, .retAddr 0, .retAddr 0] [] (rp thr (nI c) (upI I 12 (lp (rM2 I) i (rM1c c (I 12))))) Q := by
    refine lp_down ?_ ?_
    · refine mx_iload_n dM_measure_56 rfl ?_
      refine mx_bipush (24) dM_measure_57 (by decide) ?_
      refine mx_icmp_ge 151 dM_measure_59 rfl (fun h59 => ?_) (fun h59 => ?_)
      rotate_left
      · exact absurd (show (24 : Int32) ≤ nI 24 by decide) h59
      refine mx_iconst (1) dM_measure_151 (by decide) ?_
      refine mx_istore_n dM_measure_152 (Nat.le_of_ble_eq_true rfl) rfl ?_
      have l0 := lC3 0 (Nat.zero_le _)
      rw [lp_zero] at l0
      unfold rM2c at l0
      exact l0
    · intro i hi ih
      have ih : mx_W mx_K mT mCl jM_measure (mR 1 20) 56 [.ref 0, .int (nI (i + 1)), .retAddr 0, .retAddr 0, .retAddr 0, .retAddr 0] [] (rp thr (nI c) (upI I 12 (rM2 I i (lp (rM2 I) i (rM1c c (I 12)))))) Q := ih
      generalize lp (rM2 I) i (rM1c c (I 12)) = f at ih ⊢
      unfold rM2 at ih
      have hgb := gbf_le (w := i) (by omega)
      refine mx_iload_n dM_measure_56 rfl ?_
      refine mx_bipush (24) dM_measure_57 (by decide) ?_
      refine mx_icmp_ge 151 dM_measure_59 rfl (fun h59 => ?_) (fun h59 => ?_)
      · exact absurd h59 (nI_ge (b := 24) hi (by decide))
      refine mx_iload_n dM_measure_62 rfl ?_
      refine mx_S1 (R' := (mR 0 0)) [_] _ dM_measure_63 rfl mT_G jM_sinkOf_ok jM_sinkOf_v lkM_82 ⟨rfl, rfl, Nat.le_of_ble_eq_true rfl, Nat.le_of_ble_eq_true rfl⟩ rfl rfl (Nat.le_of_ble_eq_true rfl) (Nat.le_of_ble_eq_true rfl) (fun Qc qc => cM_sinkOf qc) ?_
      rw [gbf_nat (by omega)]
      refine mx_istore_n dM_measure_66 (Nat.le_of_ble_eq_true rfl) rfl ?_
      refine mx_aload_n dM_measure_67 rfl ?_
      refine mx_get 8 4 dM_measure_68 fgM_16 rfl rfl ?_
      refine mx_iload_n dM_measure_71 rfl ?_
      refine mx_iald dM_measure_72 rfl (vp_in_nI (by omega) (by decide)) ?_
      rw [nI_clamp (by omega), upI_ne _ _ (by decide)]
      refine mx_istore_n dM_measure_73 (Nat.le_of_ble_eq_true rfl) rfl ?_
      refine mx_iload_n dM_measure_74 rfl ?_
      refine mx_if_le 145 dM_measure_75 rfl (fun h75 => ?_) (fun h75 => ?_)
      · first | rw [if_pos h75] at ih | rw [if_neg h75, if_pos h80] at ih | rw [if_pos h125] at ih | rw [if_neg h125] at ih
        try rw [nI_clamp (by omega)]
        refine mx_iinc dM_measure_145 rfl (mx_inc _) (Nat.le_of_ble_eq_true rfl) rfl ?_
        refine mx_goto 56 dM_measure_148 rfl ?_
        refine mx_drop 2 ?_
        refine mx_drop 3 ?_
        refine mx_drop 4 ?_
        first | exact ih | (refine mx_eqs rfl rfl rfl ?_ ih; rw [← upI_upI I 12 f]; rfl)
      · refine mx_iload_n dM_measure_78 rfl ?_
        refine mx_iload_n dM_measure_79 rfl ?_
        refine mx_icmp_eq 145 dM_measure_80 rfl (fun h80 => ?_) (fun h80 => ?_)
        · first | rw [if_pos h75] at ih | rw [if_neg h75, if_pos h80] at ih | rw [if_pos h125] at ih | rw [if_neg h125] at ih
          try rw [nI_clamp (by omega)]
          refine mx_iinc dM_measure_145 rfl (mx_inc _) (Nat.le_of_ble_eq_true rfl) rfl ?_
          refine mx_goto 56 dM_measure_148 rfl ?_
          refine mx_drop 2 ?_
          refine mx_drop 3 ?_
          refine mx_drop 4 ?_
          first | exact ih | (refine mx_eqs rfl rfl rfl ?_ ih; rw [← upI_upI I 12 f]; rfl)
        · obtain ⟨g, hg0, hg, eg⟩ := fr_nat (hfr i (by omega)) h75
          rw [if_neg h75, if_neg h80] at ih
          rw [eg, nI_clamp (by omega)] at ih
          rw [eg]
          refine mx_sipush (1024) dM_measure_83 (by decide) ?_
          refine mx_aload_n dM_measure_86 rfl ?_
          refine mx_get 8 5 dM_measure_87 fgM_19 rfl rfl ?_
          refine mx_iload_n dM_measure_90 rfl ?_
          refine mx_iald dM_measure_91 rfl (vp_in_nI (by omega) (by decide)) ?_
          rw [nI_clamp (by omega), upI_ne _ _ (by decide)]
          refine mx_imul dM_measure_92 ?_
          refine mx_aload_n dM_measure_93 rfl ?_
          refine mx_get 8 3 dM_measure_94 fgM_13 rfl rfl ?_
          refine mx_iload_n dM_measure_97 rfl ?_
          refine mx_iald dM_measure_98 rfl (vp_in_nI (by omega) (by decide)) ?_
          rw [nI_clamp (by omega), upI_ne _ _ (by decide)]
          refine mx_isub dM_measure_99 ?_
          refine mx_istore dM_measure_100 (Nat.le_of_ble_eq_true rfl) rfl ?_
          refine mx_aload_n dM_measure_102 rfl ?_
          refine mx_get 8 13 dM_measure_103 fgM_43 rfl rfl ?_
          refine mx_bipush (13) dM_measure_106 (by decide) ?_
          refine mx_iload_n dM_measure_108 rfl ?_
          refine mx_imul dM_measure_109 ?_
          refine mx_iload_n dM_measure_110 rfl ?_
          refine mx_iadd dM_measure_111 ?_
          rw [show (13 : Int32) = nI 13 from rfl, pk_mul, nI_add]
          refine mx_iload dM_measure_112 rfl ?_
          refine mx_aload_n dM_measure_114 rfl ?_
          refine mx_get 8 13 dM_measure_115 fgM_43 rfl rfl ?_
          refine mx_bipush (13) dM_measure_118 (by decide) ?_
          refine mx_iload_n dM_measure_120 rfl ?_
          refine mx_imul dM_measure_121 ?_
          refine mx_iload_n dM_measure_122 rfl ?_
          refine mx_iadd dM_measure_123 ?_
          rw [show (13 : Int32) = nI 13 from rfl, pk_mul, nI_add]
          refine mx_iald dM_measure_124 rfl (vp_in_nI (by omega) (by decide)) ?_
          rw [nI_clamp (by omega)]
          try simp only [upI_self]
          refine mx_icmp_ge 133 dM_measure_125 rfl (fun h125 => ?_) (fun h125 => ?_)
          · refine mx_aload_n dM_measure_133 rfl ?_
            refine mx_get 8 13 dM_measure_134 fgM_43 rfl rfl ?_
            refine mx_bipush (13) dM_measure_137 (by decide) ?_
            refine mx_iload_n dM_measure_139 rfl ?_
            refine mx_imul dM_measure_140 ?_
            refine mx_iload_n dM_measure_141 rfl ?_
            refine mx_iadd dM_measure_142 ?_
            rw [show (13 : Int32) = nI 13 from rfl, pk_mul, nI_add]
            refine mx_iald dM_measure_143 rfl (vp_in_nI (by omega) (by decide)) ?_
            try rw [nI_clamp (by omega)]
            try simp only [upI_self]
            refine mx_iast dM_measure_144 rfl (vp_in_nI (by omega) (by decide)) ?_
            first | rw [if_pos h75] at ih | rw [if_neg h75, if_pos h80] at ih | rw [if_pos h125] at ih | rw [if_neg h125] at ih
            try rw [nI_clamp (by omega)]
            refine mx_iinc dM_measure_145 rfl (mx_inc _) (Nat.le_of_ble_eq_true rfl) rfl ?_
            refine mx_goto 56 dM_measure_148 rfl ?_
            refine mx_drop 2 ?_
            refine mx_drop 3 ?_
            refine mx_drop 4 ?_
            first | exact ih | (refine mx_eqs rfl rfl rfl ?_ ih; rw [← upI_upI I 12 f]; rfl)
          · refine mx_iload dM_measure_128 rfl ?_
            refine mx_goto 144 dM_measure_130 rfl ?_
            try rw [nI_clamp (by omega)]
            try simp only [upI_self]
            refine mx_iast dM_measure_144 rfl (vp_in_nI (by omega) (by decide)) ?_
            first | rw [if_pos h75] at ih | rw [if_neg h75, if_pos h80] at ih | rw [if_pos h125] at ih | rw [if_neg h125] at ih
            try rw [nI_clamp (by omega)]
            refine mx_iinc dM_measure_145 rfl (mx_inc _) (Nat.le_of_ble_eq_true rfl) rfl ?_
            refine mx_goto 56 dM_measure_148 rfl ?_
            refine mx_drop 2 ?_
            refine mx_drop 3 ?_
            refine mx_drop 4 ?_
            first | exact ih | (refine mx_eqs rfl rfl rfl ?_ ih; rw [← upI_upI I 12 f]; rfl)
  have lA1 : ∀ (u : Nat) (f : Nat → Int32), u < c → mx_W mx_K mT mCl jM_measure (mR 1 20) 48 [.ref 0, .int (nI (u + 1)), .int (nI (c + 1)), .retAddr 0, .retAddr 0, .retAddr 0] [] (rp thr (nI c) (upI I 12 (lp (rM1 u) c f))) Q → ∀ i, i ≤ c → mx_W mx_K mT mCl jM_measure (mR 1 20) 12 [.ref 0, .int (nI (u + 1)), .int (nI (i + 1)), .retAddr 0, .retAddr 0, .retAddr 0] [] (rp thr (nI c) (upI I 12 (lp (rM1 u) i f))) Q := by
    intro u f hu hk
    refine lp_down ?_ ?_
    · refine mx_iload_n dM_measure_12 rfl ?_
      refine mx_aload_n dM_measure_13 rfl ?_
      refine mx_get 8 1 dM_measure_14 fgM_53 rfl rfl ?_
      refine mx_icmp_gt 48 dM_measure_17 rfl (fun h17 => ?_) (fun h17 => ?_)
      rotate_left
      · exact absurd (nI_lt (Nat.lt_succ_self c) (by omega)) h17
      exact hk
    · intro i hi ih
      have ih : mx_W mx_K mT mCl jM_measure (mR 1 20) 12 [.ref 0, .int (nI (u + 1)), .int (nI (i + 1 + 1)), .retAddr 0, .retAddr 0, .retAddr 0] [] (rp thr (nI c) (upI I 12 (rM1 u i (lp (rM1 u) i f)))) Q := ih
      generalize lp (rM1 u) i f = f at ih ⊢
      unfold rM1 at ih
      refine mx_iload_n dM_measure_12 rfl ?_
      refine mx_aload_n dM_measure_13 rfl ?_
      refine mx_get 8 1 dM_measure_14 fgM_53 rfl rfl ?_
      refine mx_icmp_gt 48 dM_measure_17 rfl (fun h17 => ?_) (fun h17 => ?_)
      · exact absurd h17 (nI_nlt (by omega) (by omega))
      refine mx_aload_n dM_measure_20 rfl ?_
      refine mx_get 8 13 dM_measure_21 fgM_43 rfl rfl ?_
      refine mx_bipush (13) dM_measure_24 (by decide) ?_
      refine mx_iload_n dM_measure_26 rfl ?_
      refine mx_imul dM_measure_27 ?_
      refine mx_iload_n dM_measure_28 rfl ?_
      refine mx_iadd dM_measure_29 ?_
      rw [show (13 : Int32) = nI 13 from rfl, pk_mul, nI_add]
      refine mx_iload_n dM_measure_30 rfl ?_
      refine mx_iload_n dM_measure_31 rfl ?_
      refine mx_icmp_ne 39 dM_measure_32 rfl (fun h32 => ?_) (fun h32 => ?_)
      · refine mx_ldc dM_measure_39 (mT_4 (i := 87) rfl rfl) ?_
        refine mx_iast dM_measure_41 rfl (vp_in_nI (by omega) (by decide)) ?_
        first | rw [if_neg (fun e => h32 (by rw [e]))] at ih | rw [if_pos (by have := (nI_eq (by omega) (by omega)).mp h32; omega)] at ih
        rw [nI_clamp (by omega)]
        refine mx_iinc dM_measure_42 rfl (mx_inc _) (Nat.le_of_ble_eq_true rfl) rfl ?_
        refine mx_goto 12 dM_measure_45 rfl ?_
        refine mx_eqs rfl rfl rfl ?_ ih
        rw [← upI_upI I 12 f]
        rfl
      · refine mx_iconst (0) dM_measure_35 (by decide) ?_
        refine mx_goto 41 dM_measure_36 rfl ?_
        refine mx_iast dM_measure_41 rfl (vp_in_nI (by omega) (by decide)) ?_
        first | rw [if_neg (fun e => h32 (by rw [e]))] at ih | rw [if_pos (by have := (nI_eq (by omega) (by omega)).mp h32; omega)] at ih
        rw [nI_clamp (by omega)]
        refine mx_iinc dM_measure_42 rfl (mx_inc _) (Nat.le_of_ble_eq_true rfl) rfl ?_
        refine mx_goto 12 dM_measure_45 rfl ?_
        refine mx_eqs rfl rfl rfl ?_ ih
        rw [← upI_upI I 12 f]
        rfl
  have lA2 : ∀ i, i ≤ c → mx_W mx_K mT mCl jM_measure (mR 1 20) 2 [.ref 0, .int (nI (i + 1)), .retAddr 0, .retAddr 0, .retAddr 0, .retAddr 0] [] (rp thr (nI c) (upI I 12 (lp (fun u f => lp (rM1 u) c f) i (I 12)))) Q := by
    refine lp_down ?_ ?_
    · refine mx_iload_n dM_measure_2 rfl ?_
      refine mx_aload_n dM_measure_3 rfl ?_
      refine mx_get 8 1 dM_measure_4 fgM_53 rfl rfl ?_
      refine mx_icmp_gt 54 dM_measure_7 rfl (fun h7 => ?_) (fun h7 => ?_)
      rotate_left
      · exact absurd (nI_lt (Nat.lt_succ_self c) (by omega)) h7
      refine mx_iconst (0) dM_measure_54 (by decide) ?_
      refine mx_istore_n dM_measure_55 (Nat.le_of_ble_eq_true rfl) rfl ?_
      exact lB 0 (Nat.zero_le _)
    · intro i hi ih
      refine mx_iload_n dM_measure_2 rfl ?_
      refine mx_aload_n dM_measure_3 rfl ?_
      refine mx_get 8 1 dM_measure_4 fgM_53 rfl rfl ?_
      refine mx_icmp_gt 54 dM_measure_7 rfl (fun h7 => ?_) (fun h7 => ?_)
      · exact absurd h7 (nI_nlt (by omega) (by omega))
      refine mx_iconst (1) dM_measure_10 (by decide) ?_
      refine mx_istore_n dM_measure_11 (Nat.le_of_ble_eq_true rfl) rfl ?_
      refine lA1 i _ hi ?_ 0 (Nat.zero_le _)
      refine mx_iinc dM_measure_48 rfl (mx_inc _) (Nat.le_of_ble_eq_true rfl) rfl ?_
      refine mx_goto 2 dM_measure_51 rfl ?_
      refine mx_drop 2 ?_
      exact ih
  refine mx_iconst (1) dM_measure_0 (by decide) ?_
  refine mx_istore_n dM_measure_1 (Nat.le_of_ble_eq_true rfl) rfl ?_
  refine mx_eqs rfl rfl rfl ?_ (lA2 0 (Nat.zero_le _))
  rw [lp_zero, upI_own]
