/-! The reference: lowerAll, find, least. -/
theorem fr_in {x : Int32} (h : x ≤ 12) : 0 < x → vp_in x 13 := fun h0 => by
  obtain ⟨g, _, hg, e⟩ := fr_nat h (fun q => by rw [Int32.lt_iff_toInt_lt] at h0; rw [Int32.le_iff_toInt_le] at q; omega)
  rw [e]
  exact vp_in_nI hg (by decide)
abbrev rLS : Type := (Nat → Int32) × Bool
/-- ok && lower(x, m) -/
def rAl (x : Int32) (m : (Nat → Int32) → Int32) (s : rLS) : rLS := if s.2 = true then rLw s.1 x (m s.1) else s
def rA1 (I : Nat → Nat → Int32) (i : Nat) (s : rLS) : rLS := if I 3 i = 0 then s else rAl (nI (gbf i)) (fun f => 20 - I 4 i + rLo f (I 3 i)) (rAl (I 3 i) (fun f => I 4 i + rLo f (nI (gbf i))) s)
def rTi (C d : Nat → Int32) (k : Int32) (u v : Nat) : Bool := decide (¬ 1000 ≤ rWt C u v ∧ ¬ rDl C d u v ≤ k)
def rA2 (C d : Nat → Int32) (k : Int32) (u v : Nat) (s : rLS) : rLS := if rTi C d k (u + 1) (v + 1) = true then rAl (nI (u + 1)) (fun f => rWt C (u + 1) (v + 1) + f (v + 1) - 1) s else s
def rA2u (c : Nat) (C d : Nat → Int32) (k : Int32) (u : Nat) (s : rLS) : rLS := lp (rA2 C d k u) c s
def rLAll (c : Nat) (I : Nat → Nat → Int32) (k : Int32) (f : Nat → Int32) : rLS := lp (rA2u c (I 12) (I 2) k) c (lp (rA1 I) 27 (f, true))
theorem cM_lowerAll {c : Nat} {thr : Int32} {I : Nat → Nat → Int32} {Q : mx_O → List va_E → Prop} (hc : c ≤ 12) (hfr : ∀ w, w < 27 → I 3 w ≤ 12) {k : Int32} (hQ : Q (.inl (some (.int (i01 (rLAll c I k (I 10)).2)))) (rp thr (nI c) (upI I 10 (rLAll c I k (I 10)).1))) : mx_W mx_K mT mCl jM_lowerAll (mR 2 45) 0 [.ref 0, .int k, .retAddr 0, .retAddr 0, .retAddr 0, .retAddr 0] [] (rp thr (nI c) I) Q := by
  have l2 : ∀ (u : Nat) (s : rLS), u < c → mx_W mx_K mT mCl jM_lowerAll (mR 2 45) 205 [.ref 0, .int k, .int (i01 (rA2u c (I 12) (I 2) k u s).2), .int (nI (u + 1)), .int (nI (c + 1)), .retAddr 0] [] (rp thr (nI c) (upI I 10 (rA2u c (I 12) (I 2) k u s).1)) Q → ∀ i, i ≤ c → mx_W mx_K mT mCl jM_lowerAll (mR 2 45) 119 [.ref 0, .int k, .int (i01 (lp (rA2 (I 12) (I 2) k u) i s).2), .int (nI (u + 1)), .int (nI (i + 1)), .retAddr 0] [] (rp thr (nI c) (upI I 10 (lp (rA2 (I 12) (I 2) k u) i s).1)) Q := by
    intro u s hu hk
    refine lp_down ?_ ?_
    · refine mx_iload dM_lowerAll_119 rfl ?_
      refine mx_aload_n dM_lowerAll_121 rfl ?_
      refine mx_get 8 1 dM_lowerAll_122 fgM_53 rfl rfl ?_
      refine mx_icmp_gt 205 dM_lowerAll_125 rfl (fun h125 => ?_) (fun h125 => ?_)
      rotate_left
      · exact absurd (nI_lt (Nat.lt_succ_self c) (by omega)) h125
      exact hk
    · intro i hi ih
      have ih : mx_W mx_K mT mCl jM_lowerAll (mR 2 45) 119 [.ref 0, .int k, .int (i01 (rA2 (I 12) (I 2) k u i (lp (rA2 (I 12) (I 2) k u) i s)).2), .int (nI (u + 1)), .int (nI (i + 1 + 1)), .retAddr 0] [] (rp thr (nI c) (upI I 10 (rA2 (I 12) (I 2) k u i (lp (rA2 (I 12) (I 2) k u) i s)).1)) Q := ih
      generalize lp (rA2 (I 12) (I 2) k u) i s = s at ih ⊢
      unfold rA2 at ih
      refine mx_iload dM_lowerAll_119 rfl ?_
      refine mx_aload_n dM_lowerAll_121 rfl ?_
      refine mx_get 8 1 dM_lowerAll_122 fgM_53 rfl rfl ?_
      refine mx_icmp_gt 205 dM_lowerAll_125 rfl (fun h125 => ?_) (fun h125 => ?_)
      · exact absurd h125 (nI_nlt (by omega) (by omega))
      refine mx_aload_n dM_lowerAll_128 rfl ?_
      refine mx_iload_n dM_lowerAll_129 rfl ?_
      refine mx_iload dM_lowerAll_130 rfl ?_
      refine mx_V1 (R' := (mR 0 0)) [_, _] _ dM_lowerAll_132 rfl mT_G jM_weightOf_ok jM_weightOf_v lkM_85 ⟨rfl, rfl, Nat.le_of_ble_eq_true rfl, Nat.le_of_ble_eq_true rfl⟩ rfl rfl (Nat.le_of_ble_eq_true rfl) (Nat.le_of_ble_eq_true rfl) rfl rfl rfl (fun Qc qc => cM_weightOf (by omega) (by omega) qc) ?_
      rw [upI_ne _ _ (by decide)]
      refine mx_sipush (1000) dM_lowerAll_135 (by decide) ?_
      refine mx_icmp_ge 156 dM_lowerAll_138 rfl (fun h138 => ?_) (fun h138 => ?_)
      · first | rw [show rTi (I 12) (I 2) k (u + 1) (i + 1) = false from decide_eq_false (fun q => q.1 h138), if_neg (by decide)] at ih | rw [show rTi (I 12) (I 2) k (u + 1) (i + 1) = false from decide_eq_false (fun q => q.2 h149), if_neg (by decide)] at ih
        refine mx_iconst (0) dM_lowerAll_156 (by decide) ?_
        refine mx_istore dM_lowerAll_157 (Nat.le_of_ble_eq_true rfl) rfl ?_
        refine mx_iload_n dM_lowerAll_159 rfl ?_
        refine mx_if_eq 197 dM_lowerAll_160 rfl (fun h160 => ?_) (fun h160 => ?_)
        · refine mx_iconst (0) dM_lowerAll_197 (by decide) ?_
          first | rw [i01_nz h160] at ih | rw [i01_z h160] at ih
          refine mx_istore_n dM_lowerAll_198 (Nat.le_of_ble_eq_true rfl) rfl ?_
          refine mx_iinc dM_lowerAll_199 rfl (mx_inc _) (Nat.le_of_ble_eq_true rfl) rfl ?_
          refine mx_goto 119 dM_lowerAll_202 rfl ?_
          refine mx_drop 5 ?_
          exact ih
        · refine mx_iload dM_lowerAll_163 rfl ?_
          refine mx_if_eq 193 dM_lowerAll_165 rfl (fun h165 => ?_) (fun h165 => ?_)
          rotate_left
          · exact absurd rfl h165
          refine mx_iconst (1) dM_lowerAll_193 (by decide) ?_
          refine mx_goto 198 dM_lowerAll_194 rfl ?_
          first | rw [i01_nz h160] at ih | rw [i01_z h160] at ih
          refine mx_istore_n dM_lowerAll_198 (Nat.le_of_ble_eq_true rfl) rfl ?_
          refine mx_iinc dM_lowerAll_199 rfl (mx_inc _) (Nat.le_of_ble_eq_true rfl) rfl ?_
          refine mx_goto 119 dM_lowerAll_202 rfl ?_
          refine mx_drop 5 ?_
          exact ih
      · refine mx_aload_n dM_lowerAll_141 rfl ?_
        refine mx_iload_n dM_lowerAll_142 rfl ?_
        refine mx_iload dM_lowerAll_143 rfl ?_
        refine mx_V1 (R' := (mR 1 23)) [_, _] _ dM_lowerAll_145 rfl mT_G jM_delayOf_ok jM_delayOf_v lkM_98 ⟨rfl, rfl, Nat.le_of_ble_eq_true rfl, Nat.le_of_ble_eq_true rfl⟩ rfl rfl (Nat.le_of_ble_eq_true rfl) (Nat.le_of_ble_eq_true rfl) rfl rfl rfl (fun Qc qc => cM_delayOf (by omega) (by omega) qc) ?_
        rw [upI_ne _ _ (by decide), upI_ne _ _ (by decide)]
        refine mx_iload_n dM_lowerAll_148 rfl ?_
        refine mx_icmp_le 156 dM_lowerAll_149 rfl (fun h149 => ?_) (fun h149 => ?_)
        · first | rw [show rTi (I 12) (I 2) k (u + 1) (i + 1) = false from decide_eq_false (fun q => q.1 h138), if_neg (by decide)] at ih | rw [show rTi (I 12) (I 2) k (u + 1) (i + 1) = false from decide_eq_false (fun q => q.2 h149), if_neg (by decide)] at ih
          refine mx_iconst (0) dM_lowerAll_156 (by decide) ?_
          refine mx_istore dM_lowerAll_157 (Nat.le_of_ble_eq_true rfl) rfl ?_
          refine mx_iload_n dM_lowerAll_159 rfl ?_
          refine mx_if_eq 197 dM_lowerAll_160 rfl (fun h160 => ?_) (fun h160 => ?_)
          · refine mx_iconst (0) dM_lowerAll_197 (by decide) ?_
            first | rw [i01_nz h160] at ih | rw [i01_z h160] at ih
            refine mx_istore_n dM_lowerAll_198 (Nat.le_of_ble_eq_true rfl) rfl ?_
            refine mx_iinc dM_lowerAll_199 rfl (mx_inc _) (Nat.le_of_ble_eq_true rfl) rfl ?_
            refine mx_goto 119 dM_lowerAll_202 rfl ?_
            refine mx_drop 5 ?_
            exact ih
          · refine mx_iload dM_lowerAll_163 rfl ?_
            refine mx_if_eq 193 dM_lowerAll_165 rfl (fun h165 => ?_) (fun h165 => ?_)
            rotate_left
            · exact absurd rfl h165
            refine mx_iconst (1) dM_lowerAll_193 (by decide) ?_
            refine mx_goto 198 dM_lowerAll_194 rfl ?_
            first | rw [i01_nz h160] at ih | rw [i01_z h160] at ih
            refine mx_istore_n dM_lowerAll_198 (Nat.le_of_ble_eq_true rfl) rfl ?_
            refine mx_iinc dM_lowerAll_199 rfl (mx_inc _) (Nat.le_of_ble_eq_true rfl) rfl ?_
            refine mx_goto 119 dM_lowerAll_202 rfl ?_
            refine mx_drop 5 ?_
            exact ih
        · rw [show rTi (I 12) (I 2) k (u + 1) (i + 1) = true from decide_eq_true ⟨h138, h149⟩, if_pos rfl] at ih
          unfold rAl at ih
          refine mx_iconst (1) dM_lowerAll_152 (by decide) ?_
          refine mx_goto 157 dM_lowerAll_153 rfl ?_
          refine mx_istore dM_lowerAll_157 (Nat.le_of_ble_eq_true rfl) rfl ?_
          refine mx_iload_n dM_lowerAll_159 rfl ?_
          refine mx_if_eq 197 dM_lowerAll_160 rfl (fun h160 => ?_) (fun h160 => ?_)
          · refine mx_iconst (0) dM_lowerAll_197 (by decide) ?_
            first
              | (rw [i01_z h160, if_neg (by decide)] at ih; (try rw [i01_z h160] at ih); refine mx_istore_n dM_lowerAll_198 (Nat.le_of_ble_eq_true rfl) rfl ?_; refine mx_iinc dM_lowerAll_199 rfl (mx_inc _) (Nat.le_of_ble_eq_true rfl) rfl ?_; refine mx_goto 119 dM_lowerAll_202 rfl ?_; refine mx_drop 5 ?_; exact ih)
              | (rw [if_pos (i01_nz h160), i01_nz h190] at ih; refine mx_istore_n dM_lowerAll_198 (Nat.le_of_ble_eq_true rfl) rfl ?_; refine mx_iinc dM_lowerAll_199 rfl (mx_inc _) (Nat.le_of_ble_eq_true rfl) rfl ?_; refine mx_goto 119 dM_lowerAll_202 rfl ?_; refine mx_drop 5 ?_; exact ih)
              | (rw [if_pos (i01_nz h160), i01_z h190] at ih; refine mx_istore_n dM_lowerAll_198 (Nat.le_of_ble_eq_true rfl) rfl ?_; refine mx_iinc dM_lowerAll_199 rfl (mx_inc _) (Nat.le_of_ble_eq_true rfl) rfl ?_; refine mx_goto 119 dM_lowerAll_202 rfl ?_; refine mx_drop 5 ?_; exact ih)
          · refine mx_iload dM_lowerAll_163 rfl ?_
            refine mx_if_eq 193 dM_lowerAll_165 rfl (fun h165 => ?_) (fun h165 => ?_)
            · exact absurd h165 (by decide)
            refine mx_aload_n dM_lowerAll_168 rfl ?_
            refine mx_iload_n dM_lowerAll_169 rfl ?_
            refine mx_aload_n dM_lowerAll_170 rfl ?_
            refine mx_iload_n dM_lowerAll_171 rfl ?_
            refine mx_iload dM_lowerAll_172 rfl ?_
            refine mx_V1 (R' := (mR 0 0)) [_, _] _ dM_lowerAll_174 rfl mT_G jM_weightOf_ok jM_weightOf_v lkM_85 ⟨rfl, rfl, Nat.le_of_ble_eq_true rfl, Nat.le_of_ble_eq_true rfl⟩ rfl rfl (Nat.le_of_ble_eq_true rfl) (Nat.le_of_ble_eq_true rfl) rfl rfl rfl (fun Qc qc => cM_weightOf (by omega) (by omega) qc) ?_
            rw [upI_ne _ _ (by decide)]
            refine mx_aload_n dM_lowerAll_177 rfl ?_
            refine mx_get 8 11 dM_lowerAll_178 fgM_37 rfl rfl ?_
            refine mx_iload dM_lowerAll_181 rfl ?_
            refine mx_iald dM_lowerAll_183 rfl (vp_in_nI (by omega) (by decide)) ?_
            rw [nI_clamp (by omega)]
            try simp only [upI_self]
            refine mx_iadd dM_lowerAll_184 ?_
            refine mx_iconst (1) dM_lowerAll_185 (by decide) ?_
            refine mx_isub dM_lowerAll_186 ?_
            refine mx_V1 (R' := (mR 0 0)) [_, _] _ dM_lowerAll_187 rfl mT_G jM_lower_ok jM_lower_v lkM_104 ⟨rfl, rfl, Nat.le_of_ble_eq_true rfl, Nat.le_of_ble_eq_true rfl⟩ rfl rfl (Nat.le_of_ble_eq_true rfl) (Nat.le_of_ble_eq_true rfl) rfl rfl rfl (fun Qc qc => cM_lower (fun _ => vp_in_nI (by omega) (by decide)) qc) ?_
            simp only [upI_self, upI_upI]
            refine mx_if_eq 197 dM_lowerAll_190 rfl (fun h190 => ?_) (fun h190 => ?_)
            · refine mx_iconst (0) dM_lowerAll_197 (by decide) ?_
              first
                | (rw [i01_z h160, if_neg (by decide)] at ih; (try rw [i01_z h160] at ih); refine mx_istore_n dM_lowerAll_198 (Nat.le_of_ble_eq_true rfl) rfl ?_; refine mx_iinc dM_lowerAll_199 rfl (mx_inc _) (Nat.le_of_ble_eq_true rfl) rfl ?_; refine mx_goto 119 dM_lowerAll_202 rfl ?_; refine mx_drop 5 ?_; exact ih)
                | (rw [if_pos (i01_nz h160), i01_nz h190] at ih; refine mx_istore_n dM_lowerAll_198 (Nat.le_of_ble_eq_true rfl) rfl ?_; refine mx_iinc dM_lowerAll_199 rfl (mx_inc _) (Nat.le_of_ble_eq_true rfl) rfl ?_; refine mx_goto 119 dM_lowerAll_202 rfl ?_; refine mx_drop 5 ?_; exact ih)
                | (rw [if_pos (i01_nz h160), i01_z h190] at ih; refine mx_istore_n dM_lowerAll_198 (Nat.le_of_ble_eq_true rfl) rfl ?_; refine mx_iinc dM_lowerAll_199 rfl (mx_inc _) (Nat.le_of_ble_eq_true rfl) rfl ?_; refine mx_goto 119 dM_lowerAll_202 rfl ?_; refine mx_drop 5 ?_; exact ih)
            · refine mx_iconst (1) dM_lowerAll_193 (by decide) ?_
              refine mx_goto 198 dM_lowerAll_194 rfl ?_
              first
                | (rw [i01_z h160, if_neg (by decide)] at ih; (try rw [i01_z h160] at ih); refine mx_istore_n dM_lowerAll_198 (Nat.le_of_ble_eq_true rfl) rfl ?_; refine mx_iinc dM_lowerAll_199 rfl (mx_inc _) (Nat.le_of_ble_eq_true rfl) rfl ?_; refine mx_goto 119 dM_lowerAll_202 rfl ?_; refine mx_drop 5 ?_; exact ih)
                | (rw [if_pos (i01_nz h160), i01_nz h190] at ih; refine mx_istore_n dM_lowerAll_198 (Nat.le_of_ble_eq_true rfl) rfl ?_; refine mx_iinc dM_lowerAll_199 rfl (mx_inc _) (Nat.le_of_ble_eq_true rfl) rfl ?_; refine mx_goto 119 dM_lowerAll_202 rfl ?_; refine mx_drop 5 ?_; exact ih)
                | (rw [if_pos (i01_nz h160), i01_z h190] at ih; refine mx_istore_n dM_lowerAll_198 (Nat.le_of_ble_eq_true rfl) rfl ?_; refine mx_iinc dM_lowerAll_199 rfl (mx_inc _) (Nat.le_of_ble_eq_true rfl) rfl ?_; refine mx_goto 119 dM_lowerAll_202 rfl ?_; refine mx_drop 5 ?_; exact ih)
  have l3 : ∀ i, i ≤ c → mx_W mx_K mT mCl jM_lowerAll (mR 2 45) 108 [.ref 0, .int k, .int (i01 (lp (rA2u c (I 12) (I 2) k) i (lp (rA1 I) 27 (I 10, true))).2), .int (nI (i + 1)), .retAddr 0, .retAddr 0] [] (rp thr (nI c) (upI I 10 (lp (rA2u c (I 12) (I 2) k) i (lp (rA1 I) 27 (I 10, true))).1)) Q := by
    refine lp_down ?_ ?_
    · unfold rLAll at hQ
      generalize lp (rA2u c (I 12) (I 2) k) c (lp (rA1 I) 27 (I 10, true)) = s at hQ ⊢
      refine mx_iload_n dM_lowerAll_108 rfl ?_
      refine mx_aload_n dM_lowerAll_109 rfl ?_
      refine mx_get 8 1 dM_lowerAll_110 fgM_53 rfl rfl ?_
      refine mx_icmp_gt 211 dM_lowerAll_113 rfl (fun h113 => ?_) (fun h113 => ?_)
      rotate_left
      · exact absurd (nI_lt (Nat.lt_succ_self c) (by omega)) h113
      refine mx_iload_n dM_lowerAll_211 rfl ?_
      refine mx_iret dM_lowerAll_212 rfl (by cases s.2 <;> rfl) ?_
      exact hQ
    · intro i hi ih
      refine mx_iload_n dM_lowerAll_108 rfl ?_
      refine mx_aload_n dM_lowerAll_109 rfl ?_
      refine mx_get 8 1 dM_lowerAll_110 fgM_53 rfl rfl ?_
      refine mx_icmp_gt 211 dM_lowerAll_113 rfl (fun h113 => ?_) (fun h113 => ?_)
      · exact absurd h113 (nI_nlt (by omega) (by omega))
      refine mx_iconst (1) dM_lowerAll_116 (by decide) ?_
      refine mx_istore dM_lowerAll_117 (Nat.le_of_ble_eq_true rfl) rfl ?_
      refine l2 i _ hi ?_ 0 (Nat.zero_le _)
      refine mx_iinc dM_lowerAll_205 rfl (mx_inc _) (Nat.le_of_ble_eq_true rfl) rfl ?_
      refine mx_goto 108 dM_lowerAll_208 rfl ?_
      refine mx_drop 4 ?_
      exact ih
  have l1 : ∀ i, i ≤ 27 → mx_W mx_K mT mCl jM_lowerAll (mR 2 45) 4 [.ref 0, .int k, .int (i01 (lp (rA1 I) i (I 10, true)).2), .int (nI i), .retAddr 0, .retAddr 0] [] (rp thr (nI c) (upI I 10 (lp (rA1 I) i (I 10, true)).1)) Q := by
    refine lp_down ?_ ?_
    · refine mx_iload_n dM_lowerAll_4 rfl ?_
      refine mx_bipush (27) dM_lowerAll_5 (by decide) ?_
      refine mx_icmp_ge 106 dM_lowerAll_7 rfl (fun h7 => ?_) (fun h7 => ?_)
      rotate_left
      · exact absurd (show (27 : Int32) ≤ nI 27 by decide) h7
      refine mx_iconst (1) dM_lowerAll_106 (by decide) ?_
      refine mx_istore_n dM_lowerAll_107 (Nat.le_of_ble_eq_true rfl) rfl ?_
      exact l3 0 (Nat.zero_le _)
    · intro i hi ih
      have ih : mx_W mx_K mT mCl jM_lowerAll (mR 2 45) 4 [.ref 0, .int k, .int (i01 (rA1 I i (lp (rA1 I) i (I 10, true))).2), .int (nI (i + 1)), .retAddr 0, .retAddr 0] [] (rp thr (nI c) (upI I 10 (rA1 I i (lp (rA1 I) i (I 10, true))).1)) Q := ih
      generalize lp (rA1 I) i (I 10, true) = s at ih ⊢
      unfold rA1 at ih
      have hgb := gbf_le (w := i) (by omega)
      have h2 : ∀ t : rLS, mx_W mx_K mT mCl jM_lowerAll (mR 2 45) 100 [.ref 0, .int k, .int (i01 (rAl (nI (gbf i)) (fun f => 20 - I 4 i + rLo f (I 3 i)) t).2), .int (nI i), .int (nI (gbf i)), .retAddr 0] [] (rp thr (nI c) (upI I 10 (rAl (nI (gbf i)) (fun f => 20 - I 4 i + rLo f (I 3 i)) t).1)) Q → mx_W mx_K mT mCl jM_lowerAll (mR 2 45) 61 [.ref 0, .int k, .int (i01 t.2), .int (nI i), .int (nI (gbf i)), .retAddr 0] [] (rp thr (nI c) (upI I 10 (t).1)) Q := by
        intro t hk
        unfold rAl at hk
        refine mx_iload_n dM_lowerAll_61 rfl ?_
        refine mx_if_eq 98 dM_lowerAll_62 rfl (fun h62 => ?_) (fun h62 => ?_)
        · refine mx_iconst (0) dM_lowerAll_98 (by decide) ?_
          first
            | (rw [i01_z h62, if_neg (by decide)] at hk; (try rw [i01_z h62] at hk); refine mx_istore_n dM_lowerAll_99 (Nat.le_of_ble_eq_true rfl) rfl ?_; exact hk)
            | (rw [if_pos (i01_nz h62), i01_nz h91] at hk; refine mx_istore_n dM_lowerAll_99 (Nat.le_of_ble_eq_true rfl) rfl ?_; exact hk)
            | (rw [if_pos (i01_nz h62), i01_z h91] at hk; refine mx_istore_n dM_lowerAll_99 (Nat.le_of_ble_eq_true rfl) rfl ?_; exact hk)
        · refine mx_aload_n dM_lowerAll_65 rfl ?_
          refine mx_iload dM_lowerAll_66 rfl ?_
          refine mx_bipush (20) dM_lowerAll_68 (by decide) ?_
          refine mx_aload_n dM_lowerAll_70 rfl ?_
          refine mx_get 8 5 dM_lowerAll_71 fgM_19 rfl rfl ?_
          refine mx_iload_n dM_lowerAll_74 rfl ?_
          refine mx_iald dM_lowerAll_75 rfl (vp_in_nI (by omega) (by decide)) ?_
          rw [nI_clamp (by omega), upI_ne _ _ (by decide)]
          refine mx_isub dM_lowerAll_76 ?_
          refine mx_aload_n dM_lowerAll_77 rfl ?_
          refine mx_aload_n dM_lowerAll_78 rfl ?_
          refine mx_get 8 4 dM_lowerAll_79 fgM_16 rfl rfl ?_
          refine mx_iload_n dM_lowerAll_82 rfl ?_
          refine mx_iald dM_lowerAll_83 rfl (vp_in_nI (by omega) (by decide)) ?_
          rw [nI_clamp (by omega), upI_ne _ _ (by decide)]
          refine mx_V1 (R' := (mR 0 0)) [_] _ dM_lowerAll_84 rfl mT_G jM_labelOf_ok jM_labelOf_v lkM_101 ⟨rfl, rfl, Nat.le_of_ble_eq_true rfl, Nat.le_of_ble_eq_true rfl⟩ rfl rfl (Nat.le_of_ble_eq_true rfl) (Nat.le_of_ble_eq_true rfl) rfl rfl rfl (fun Qc qc => cM_labelOf (fr_in (hfr i (by omega))) qc) ?_
          simp only [upI_self]
          refine mx_iadd dM_lowerAll_87 ?_
          refine mx_V1 (R' := (mR 0 0)) [_, _] _ dM_lowerAll_88 rfl mT_G jM_lower_ok jM_lower_v lkM_104 ⟨rfl, rfl, Nat.le_of_ble_eq_true rfl, Nat.le_of_ble_eq_true rfl⟩ rfl rfl (Nat.le_of_ble_eq_true rfl) (Nat.le_of_ble_eq_true rfl) rfl rfl rfl (fun Qc qc => cM_lower (fun _ => vp_in_nI (by omega) (by decide)) qc) ?_
          simp only [upI_self, upI_upI]
          refine mx_if_eq 98 dM_lowerAll_91 rfl (fun h91 => ?_) (fun h91 => ?_)
          · refine mx_iconst (0) dM_lowerAll_98 (by decide) ?_
            first
              | (rw [i01_z h62, if_neg (by decide)] at hk; (try rw [i01_z h62] at hk); refine mx_istore_n dM_lowerAll_99 (Nat.le_of_ble_eq_true rfl) rfl ?_; exact hk)
              | (rw [if_pos (i01_nz h62), i01_nz h91] at hk; refine mx_istore_n dM_lowerAll_99 (Nat.le_of_ble_eq_true rfl) rfl ?_; exact hk)
              | (rw [if_pos (i01_nz h62), i01_z h91] at hk; refine mx_istore_n dM_lowerAll_99 (Nat.le_of_ble_eq_true rfl) rfl ?_; exact hk)
          · refine mx_iconst (1) dM_lowerAll_94 (by decide) ?_
            refine mx_goto 99 dM_lowerAll_95 rfl ?_
            first
              | (rw [i01_z h62, if_neg (by decide)] at hk; (try rw [i01_z h62] at hk); refine mx_istore_n dM_lowerAll_99 (Nat.le_of_ble_eq_true rfl) rfl ?_; exact hk)
              | (rw [if_pos (i01_nz h62), i01_nz h91] at hk; refine mx_istore_n dM_lowerAll_99 (Nat.le_of_ble_eq_true rfl) rfl ?_; exact hk)
              | (rw [if_pos (i01_nz h62), i01_z h91] at hk; refine mx_istore_n dM_lowerAll_99 (Nat.le_of_ble_eq_true rfl) rfl ?_; exact hk)
      refine mx_iload_n dM_lowerAll_4 rfl ?_
      refine mx_bipush (27) dM_lowerAll_5 (by decide) ?_
      refine mx_icmp_ge 106 dM_lowerAll_7 rfl (fun h7 => ?_) (fun h7 => ?_)
      · exact absurd h7 (nI_ge (b := 27) hi (by decide))
      refine mx_aload_n dM_lowerAll_10 rfl ?_
      refine mx_get 8 4 dM_lowerAll_11 fgM_16 rfl rfl ?_
      refine mx_iload_n dM_lowerAll_14 rfl ?_
      refine mx_iald dM_lowerAll_15 rfl (vp_in_nI (by omega) (by decide)) ?_
      rw [nI_clamp (by omega), upI_ne _ _ (by decide)]
      refine mx_if_eq 100 dM_lowerAll_16 rfl (fun h16 => ?_) (fun h16 => ?_)
      · rw [if_pos h16] at ih
        refine mx_iinc dM_lowerAll_100 rfl (mx_inc _) (Nat.le_of_ble_eq_true rfl) rfl ?_
        refine mx_goto 4 dM_lowerAll_103 rfl ?_
        exact ih
      · rw [if_neg h16] at ih
        have h3 := h2 (rAl (I 3 i) (fun f => I 4 i + rLo f (nI (gbf i))) s) (by
          refine mx_iinc dM_lowerAll_100 rfl (mx_inc _) (Nat.le_of_ble_eq_true rfl) rfl ?_
          refine mx_goto 4 dM_lowerAll_103 rfl ?_
          refine mx_drop 4 ?_
          exact ih)
        unfold rAl at h3
        refine mx_iload_n dM_lowerAll_19 rfl ?_
        refine mx_S1 (R' := (mR 0 0)) [_] _ dM_lowerAll_20 rfl mT_G jM_sinkOf_ok jM_sinkOf_v lkM_82 ⟨rfl, rfl, Nat.le_of_ble_eq_true rfl, Nat.le_of_ble_eq_true rfl⟩ rfl rfl (Nat.le_of_ble_eq_true rfl) (Nat.le_of_ble_eq_true rfl) (fun Qc qc => cM_sinkOf qc) ?_
        rw [gbf_nat (by omega)]
        refine mx_istore dM_lowerAll_23 (Nat.le_of_ble_eq_true rfl) rfl ?_
        refine mx_iload_n dM_lowerAll_25 rfl ?_
        refine mx_if_eq 59 dM_lowerAll_26 rfl (fun h26 => ?_) (fun h26 => ?_)
        · refine mx_iconst (0) dM_lowerAll_59 (by decide) ?_
          first
            | (rw [i01_z h26, if_neg (by decide)] at h3; (try rw [i01_z h26] at h3); refine mx_istore_n dM_lowerAll_60 (Nat.le_of_ble_eq_true rfl) rfl ?_; exact h3)
            | (rw [if_pos (i01_nz h26), i01_nz h52] at h3; refine mx_istore_n dM_lowerAll_60 (Nat.le_of_ble_eq_true rfl) rfl ?_; exact h3)
            | (rw [if_pos (i01_nz h26), i01_z h52] at h3; refine mx_istore_n dM_lowerAll_60 (Nat.le_of_ble_eq_true rfl) rfl ?_; exact h3)
        · refine mx_aload_n dM_lowerAll_29 rfl ?_
          refine mx_aload_n dM_lowerAll_30 rfl ?_
          refine mx_get 8 4 dM_lowerAll_31 fgM_16 rfl rfl ?_
          refine mx_iload_n dM_lowerAll_34 rfl ?_
          refine mx_iald dM_lowerAll_35 rfl (vp_in_nI (by omega) (by decide)) ?_
          rw [nI_clamp (by omega), upI_ne _ _ (by decide)]
          refine mx_aload_n dM_lowerAll_36 rfl ?_
          refine mx_get 8 5 dM_lowerAll_37 fgM_19 rfl rfl ?_
          refine mx_iload_n dM_lowerAll_40 rfl ?_
          refine mx_iald dM_lowerAll_41 rfl (vp_in_nI (by omega) (by decide)) ?_
          rw [nI_clamp (by omega), upI_ne _ _ (by decide)]
          refine mx_aload_n dM_lowerAll_42 rfl ?_
          refine mx_iload dM_lowerAll_43 rfl ?_
          refine mx_V1 (R' := (mR 0 0)) [_] _ dM_lowerAll_45 rfl mT_G jM_labelOf_ok jM_labelOf_v lkM_101 ⟨rfl, rfl, Nat.le_of_ble_eq_true rfl, Nat.le_of_ble_eq_true rfl⟩ rfl rfl (Nat.le_of_ble_eq_true rfl) (Nat.le_of_ble_eq_true rfl) rfl rfl rfl (fun Qc qc => cM_labelOf (fun _ => vp_in_nI (by omega) (by decide)) qc) ?_
          simp only [upI_self]
          refine mx_iadd dM_lowerAll_48 ?_
          refine mx_V1 (R' := (mR 0 0)) [_, _] _ dM_lowerAll_49 rfl mT_G jM_lower_ok jM_lower_v lkM_104 ⟨rfl, rfl, Nat.le_of_ble_eq_true rfl, Nat.le_of_ble_eq_true rfl⟩ rfl rfl (Nat.le_of_ble_eq_true rfl) (Nat.le_of_ble_eq_true rfl) rfl rfl rfl (fun Qc qc => cM_lower (fr_in (hfr i (by omega))) qc) ?_
          simp only [upI_self, upI_upI]
          refine mx_if_eq 59 dM_lowerAll_52 rfl (fun h52 => ?_) (fun h52 => ?_)
          · refine mx_iconst (0) dM_lowerAll_59 (by decide) ?_
            first
              | (rw [i01_z h26, if_neg (by decide)] at h3; (try rw [i01_z h26] at h3); refine mx_istore_n dM_lowerAll_60 (Nat.le_of_ble_eq_true rfl) rfl ?_; exact h3)
              | (rw [if_pos (i01_nz h26), i01_nz h52] at h3; refine mx_istore_n dM_lowerAll_60 (Nat.le_of_ble_eq_true rfl) rfl ?_; exact h3)
              | (rw [if_pos (i01_nz h26), i01_z h52] at h3; refine mx_istore_n dM_lowerAll_60 (Nat.le_of_ble_eq_true rfl) rfl ?_; exact h3)
          · refine mx_iconst (1) dM_lowerAll_55 (by decide) ?_
            refine mx_goto 60 dM_lowerAll_56 rfl ?_
            first
              | (rw [i01_z h26, if_neg (by decide)] at h3; (try rw [i01_z h26] at h3); refine mx_istore_n dM_lowerAll_60 (Nat.le_of_ble_eq_true rfl) rfl ?_; exact h3)
              | (rw [if_pos (i01_nz h26), i01_nz h52] at h3; refine mx_istore_n dM_lowerAll_60 (Nat.le_of_ble_eq_true rfl) rfl ?_; exact h3)
              | (rw [if_pos (i01_nz h26), i01_z h52] at h3; refine mx_istore_n dM_lowerAll_60 (Nat.le_of_ble_eq_true rfl) rfl ?_; exact h3)
  refine mx_iconst (1) dM_lowerAll_0 (by decide) ?_
  refine mx_istore_n dM_lowerAll_1 (Nat.le_of_ble_eq_true rfl) rfl ?_
  refine mx_iconst (0) dM_lowerAll_2 (by decide) ?_
  refine mx_istore_n dM_lowerAll_3 (Nat.le_of_ble_eq_true rfl) rfl ?_
  refine mx_eqs rfl rfl rfl ?_ (l1 0 (Nat.zero_le _))
  rw [lp_zero, upI_own]
