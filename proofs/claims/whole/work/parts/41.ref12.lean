/-! The reference: retime. -/
/-- many, values, told and running from tried and labels -/
def rCom (c : Nat) (J : Nat → Nat → Int32) : Nat → Nat → Int32 := rbeg (upI (upI (upI J 4 (J 8)) 5 (J 7)) 9 (lp (rTl (J 10)) c (J 9)))
def rRt2 (c : Nat) (J : Nat → Nat → Int32) (k : Int32) : Option rR3 := match rFind c J k 0 with
  | none => none
  | some s => if s.2 = true then (match rFol c (upI J 10 s.1) with
    | none => none
    | some q => some ((if q.2 = true then 1 else 0), 0, rCom c (fI (upI J 10 s.1) q.1))) else some (0, 0, upI J 10 s.1)
def rRt1 (c : Nat) (J : Nat → Nat → Int32) (k : Int32) : Option rR3 := match rFind c J k 6 with
  | none => none
  | some s => if s.2 = true then (match rFol c (upI J 10 s.1) with
    | none => none
    | some q => if q.2 = true then some (2, 0, rCom c (fI (upI J 10 s.1) q.1)) else rRt2 c (fI (upI J 10 s.1) q.1) k) else some (0, 0, upI J 10 s.1)
def rRet (c : Nat) (I : Nat → Nat → Int32) (k : Int32) : Option rR3 := if rSnd c I = true then (if k < 0 then some (0, 2, rSnI c I) else if ¬ k ≤ 600 then some (0, 2, rSnI c I) else rRt1 c (rK c I) k) else some (0, 1, rSnI c I)
theorem fI_ne {I : Nat → Nat → Int32} {s : fS} {j : Nat} (h7 : j ≠ 7) (h8 : j ≠ 8) (h11 : j ≠ 11) : fI I s j = I j := by
  unfold fI
  rw [tI_ne h7 h8, upI_ne _ _ h11]
theorem cM_retime {c : Nat} {thr : Int32} {I : Nat → Nat → Int32} {Q : mx_O → List va_E → Prop} (hc : c ≤ 12) (hfr : ∀ w, w < 27 → I 3 w ≤ 12) {k : Int32} {q : rR3} (hs : rRet c I k = some q) (hQ : Q (.inl (some (.int q.1))) (rp q.2.1 (nI c) q.2.2)) : mx_W mx_K mT mCl jM_retime (mR 4 96) 0 [.ref 0, .int k, .retAddr 0, .retAddr 0] [] (rp thr (nI c) I) Q := by
  have hC : ∀ (x : Int32) (J : Nat → Nat → Int32), Q (.inl (some (.int x))) (rp 0 (nI c) (rCom c J)) → mx_W mx_K mT mCl jM_retime (mR 4 96) 93 [.ref 0, .int k, .int x, .retAddr 0] [] (rp 0 (nI c) J) Q := by
    intro x J hq
    unfold rCom at hq
    have h3 : ∀ i, i ≤ c → mx_W mx_K mT mCl jM_retime (mR 4 96) 148 [.ref 0, .int k, .int x, .int (nI (i + 1))] [] (rp 0 (nI c) (upI (upI (upI J 4 (J 8)) 5 (J 7)) 9 (lp (rTl (J 10)) i (J 9)))) Q := by
      refine lp_down ?_ ?_
      · refine mx_iload_n dM_retime_148 rfl ?_
        refine mx_aload_n dM_retime_149 rfl ?_
        refine mx_get 8 1 dM_retime_150 fgM_53 rfl rfl ?_
        refine mx_icmp_gt 174 dM_retime_153 rfl (fun h153 => ?_) (fun h153 => ?_)
        rotate_left
        · exact absurd (nI_lt (Nat.lt_succ_self c) (by omega)) h153
        refine mx_aload_n dM_retime_174 rfl ?_
        refine mx_V1 (R' := (mR 0 0)) [] _ dM_retime_175 rfl mT_G jM_begin_ok jM_begin_v lkM_67 ⟨rfl, rfl, Nat.le_of_ble_eq_true rfl, Nat.le_of_ble_eq_true rfl⟩ rfl rfl (Nat.le_of_ble_eq_true rfl) (Nat.le_of_ble_eq_true rfl) rfl rfl rfl (fun Qc qc => cM_begin qc) ?_
        refine mx_iload_n dM_retime_178 rfl ?_
        refine mx_iret dM_retime_179 rfl rfl ?_
        exact hq
      · intro i hi ih
        have ih : mx_W mx_K mT mCl jM_retime (mR 4 96) 148 [.ref 0, .int k, .int x, .int (nI (i + 1 + 1))] [] (rp 0 (nI c) (upI (upI (upI J 4 (J 8)) 5 (J 7)) 9 (upd (lp (rTl (J 10)) i (J 9)) (i + 1) (J 10 (i + 1))))) Q := ih
        generalize lp (rTl (J 10)) i (J 9) = f at ih ⊢
        refine mx_iload_n dM_retime_148 rfl ?_
        refine mx_aload_n dM_retime_149 rfl ?_
        refine mx_get 8 1 dM_retime_150 fgM_53 rfl rfl ?_
        refine mx_icmp_gt 174 dM_retime_153 rfl (fun h153 => ?_) (fun h153 => ?_)
        · exact absurd h153 (nI_nlt (by omega) (by omega))
        refine mx_aload_n dM_retime_156 rfl ?_
        refine mx_get 8 10 dM_retime_157 fgM_34 rfl rfl ?_
        refine mx_iload_n dM_retime_160 rfl ?_
        refine mx_aload_n dM_retime_161 rfl ?_
        refine mx_get 8 11 dM_retime_162 fgM_37 rfl rfl ?_
        refine mx_iload_n dM_retime_165 rfl ?_
        refine mx_iald dM_retime_166 rfl (vp_in_nI (by omega) (by decide)) ?_
        rw [nI_clamp (by omega), upI_ne _ _ (by decide), upI_ne _ _ (by decide), upI_ne _ _ (by decide)]
        refine mx_iast dM_retime_167 rfl (vp_in_nI (by omega) (by decide)) ?_
        rw [nI_clamp (by omega)]
        refine mx_eqs rfl rfl rfl (rp_9 _) ?_
        rw [upI_self, upI_upI]
        refine mx_iinc dM_retime_168 rfl (mx_inc _) (Nat.le_of_ble_eq_true rfl) rfl ?_
        refine mx_goto 148 dM_retime_171 rfl ?_
        exact ih
    have h2 : ∀ i, i ≤ 1080 → mx_W mx_K mT mCl jM_retime (mR 4 96) 121 [.ref 0, .int k, .int x, .int (nI i)] [] (rp 0 (nI c) (upI (upI J 4 (J 8)) 5 (lp (fun j f => upd f j (J 7 j)) i (J 5)))) Q := by
      refine lp_down ?_ ?_
      · generalize hf : lp (fun j f => upd f j (J 7 j)) 1080 (J 5) = f
        refine mx_ext (b := 5) (v := (1080, .inl (J 7))) (show (rp 0 (nI c) (upI (upI J 4 (J 8)) 5 f))[5]? = some (eI 1080 f) from rfl) (mx_fi (fun j hj => by rw [← hf]; exact lp_cpy (J 7) (J 5) 1080 j hj)) ?_
        refine mx_eqs (hp' := rp 0 (nI c) (upI (upI (upI J 4 (J 8)) 5 (J 7)) 9 (J 9))) rfl rfl rfl (by rw [show upI (upI (upI J 4 (J 8)) 5 (J 7)) 9 (J 9) = upI (upI J 4 (J 8)) 5 (J 7) from upI_own (upI (upI J 4 (J 8)) 5 (J 7)) 9, ← upI_upI (upI J 4 (J 8)) 5 f (J 7)]; rfl) ?_
        refine mx_iload_n dM_retime_121 rfl ?_
        refine mx_sipush (1080) dM_retime_122 (by decide) ?_
        refine mx_icmp_ge 146 dM_retime_125 rfl (fun h125 => ?_) (fun h125 => ?_)
        rotate_left
        · exact absurd (show (1080 : Int32) ≤ nI 1080 by decide) h125
        refine mx_iconst (1) dM_retime_146 (by decide) ?_
        refine mx_istore_n dM_retime_147 (Nat.le_of_ble_eq_true rfl) rfl ?_
        exact h3 0 (Nat.zero_le _)
      · intro i hi ih
        have ih : mx_W mx_K mT mCl jM_retime (mR 4 96) 121 [.ref 0, .int k, .int x, .int (nI (i + 1))] [] (rp 0 (nI c) (upI (upI J 4 (J 8)) 5 (upd (lp (fun j f => upd f j (J 7 j)) i (J 5)) i (J 7 i)))) Q := ih
        generalize lp (fun j f => upd f j (J 7 j)) i (J 5) = f at ih ⊢
        refine mx_iload_n dM_retime_121 rfl ?_
        refine mx_sipush (1080) dM_retime_122 (by decide) ?_
        refine mx_icmp_ge 146 dM_retime_125 rfl (fun h125 => ?_) (fun h125 => ?_)
        · exact absurd h125 (nI_ge (b := 1080) hi (by decide))
        refine mx_aload_n dM_retime_128 rfl ?_
        refine mx_get 8 6 dM_retime_129 fgM_22 rfl rfl ?_
        refine mx_iload_n dM_retime_132 rfl ?_
        refine mx_aload_n dM_retime_133 rfl ?_
        refine mx_get 8 8 dM_retime_134 fgM_28 rfl rfl ?_
        refine mx_iload_n dM_retime_137 rfl ?_
        refine mx_iald dM_retime_138 rfl (vp_in_nI (by omega) (by decide)) ?_
        rw [nI_clamp (by omega), upI_ne _ _ (by decide), upI_ne _ _ (by decide)]
        refine mx_iast dM_retime_139 rfl (vp_in_nI (by omega) (by decide)) ?_
        rw [nI_clamp (by omega)]
        refine mx_eqs rfl rfl rfl (rp_5 _) ?_
        rw [upI_self, upI_upI]
        refine mx_iinc dM_retime_140 rfl (mx_inc _) (Nat.le_of_ble_eq_true rfl) rfl ?_
        refine mx_goto 121 dM_retime_143 rfl ?_
        exact ih
    have h1 : ∀ i, i ≤ 27 → mx_W mx_K mT mCl jM_retime (mR 4 96) 95 [.ref 0, .int k, .int x, .int (nI i)] [] (rp 0 (nI c) (upI J 4 (lp (fun j f => upd f j (J 8 j)) i (J 4)))) Q := by
      refine lp_down ?_ ?_
      · generalize hf : lp (fun j f => upd f j (J 8 j)) 27 (J 4) = f
        refine mx_ext (b := 4) (v := (27, .inl (J 8))) (show (rp 0 (nI c) (upI J 4 f))[4]? = some (eI 27 f) from rfl) (mx_fi (fun j hj => by rw [← hf]; exact lp_cpy (J 8) (J 4) 27 j hj)) ?_
        refine mx_eqs (hp' := rp 0 (nI c) (upI (upI J 4 (J 8)) 5 (J 5))) rfl rfl rfl (by rw [show upI (upI J 4 (J 8)) 5 (J 5) = upI J 4 (J 8) from upI_own (upI J 4 (J 8)) 5, ← upI_upI J 4 f (J 8)]; rfl) ?_
        refine mx_iload_n dM_retime_95 rfl ?_
        refine mx_bipush (27) dM_retime_96 (by decide) ?_
        refine mx_icmp_ge 119 dM_retime_98 rfl (fun h98 => ?_) (fun h98 => ?_)
        rotate_left
        · exact absurd (show (27 : Int32) ≤ nI 27 by decide) h98
        refine mx_iconst (0) dM_retime_119 (by decide) ?_
        refine mx_istore_n dM_retime_120 (Nat.le_of_ble_eq_true rfl) rfl ?_
        exact h2 0 (Nat.zero_le _)
      · intro i hi ih
        have ih : mx_W mx_K mT mCl jM_retime (mR 4 96) 95 [.ref 0, .int k, .int x, .int (nI (i + 1))] [] (rp 0 (nI c) (upI J 4 (upd (lp (fun j f => upd f j (J 8 j)) i (J 4)) i (J 8 i)))) Q := ih
        generalize lp (fun j f => upd f j (J 8 j)) i (J 4) = f at ih ⊢
        refine mx_iload_n dM_retime_95 rfl ?_
        refine mx_bipush (27) dM_retime_96 (by decide) ?_
        refine mx_icmp_ge 119 dM_retime_98 rfl (fun h98 => ?_) (fun h98 => ?_)
        · exact absurd h98 (nI_ge (b := 27) hi (by decide))
        refine mx_aload_n dM_retime_101 rfl ?_
        refine mx_get 8 5 dM_retime_102 fgM_19 rfl rfl ?_
        refine mx_iload_n dM_retime_105 rfl ?_
        refine mx_aload_n dM_retime_106 rfl ?_
        refine mx_get 8 9 dM_retime_107 fgM_31 rfl rfl ?_
        refine mx_iload_n dM_retime_110 rfl ?_
        refine mx_iald dM_retime_111 rfl (vp_in_nI (by omega) (by decide)) ?_
        rw [nI_clamp (by omega), upI_ne _ _ (by decide)]
        refine mx_iast dM_retime_112 rfl (vp_in_nI (by omega) (by decide)) ?_
        rw [nI_clamp (by omega)]
        refine mx_eqs rfl rfl rfl (rp_4 _) ?_
        rw [upI_self, upI_upI]
        refine mx_iinc dM_retime_113 rfl (mx_inc _) (Nat.le_of_ble_eq_true rfl) rfl ?_
        refine mx_goto 95 dM_retime_116 rfl ?_
        exact ih
    refine mx_iconst (0) dM_retime_93 (by decide) ?_
    refine mx_istore_n dM_retime_94 (Nat.le_of_ble_eq_true rfl) rfl ?_
    refine mx_eqs rfl rfl rfl ?_ (h1 0 (Nat.zero_le _))
    rw [lp_zero, upI_own]
  have hR2 : ∀ J : Nat → Nat → Int32, (∀ w, w < 27 → J 3 w ≤ 12) → rRt2 c J k = some q → mx_W mx_K mT mCl jM_retime (mR 4 96) 65 [.ref 0, .int k, .int 2, .retAddr 0] [] (rp 0 (nI c) J) Q := by
    intro J hJ h
    unfold rRt2 at h
    cases hf : rFind c J k 0 with
    | none => rw [hf] at h; cases h
    | some s =>
      rw [hf] at h
      simp only [] at h
      refine mx_iconst (1) dM_retime_65 (by decide) ?_
      refine mx_istore_n dM_retime_66 (Nat.le_of_ble_eq_true rfl) rfl ?_
      refine mx_aload_n dM_retime_67 rfl ?_
      refine mx_iload_n dM_retime_68 rfl ?_
      refine mx_iconst (0) dM_retime_69 (by decide) ?_
      refine mx_V1 (R' := (mR 3 70)) [_, _] _ dM_retime_70 rfl mT_G jM_find_ok jM_find_v lkM_110 ⟨rfl, rfl, Nat.le_of_ble_eq_true rfl, Nat.le_of_ble_eq_true rfl⟩ rfl rfl (Nat.le_of_ble_eq_true rfl) (Nat.le_of_ble_eq_true rfl) rfl rfl rfl (fun Qc qc => cM_find hc hJ hf qc) ?_
      refine mx_if_ne 78 dM_retime_73 rfl (fun h73 => ?_) (fun h73 => ?_)
      · rw [if_pos (i01_nz h73)] at h
        cases hg : rFol c (upI J 10 s.1) with
        | none => rw [hg] at h; cases h
        | some z =>
          rw [hg] at h
          simp only [] at h
          cases h
          refine mx_aload_n dM_retime_78 rfl ?_
          refine mx_V1 (R' := (mR 2 51)) [] _ dM_retime_79 rfl mT_G jM_follow_ok jM_follow_v lkM_137 ⟨rfl, rfl, Nat.le_of_ble_eq_true rfl, Nat.le_of_ble_eq_true rfl⟩ rfl rfl (Nat.le_of_ble_eq_true rfl) (Nat.le_of_ble_eq_true rfl) rfl rfl rfl (fun Qc qc => cM_follow hc hg qc) ?_
          refine mx_istore_n dM_retime_82 (Nat.le_of_ble_eq_true rfl) rfl ?_
          refine mx_iload_n dM_retime_83 rfl ?_
          refine mx_if_eq 91 dM_retime_84 rfl (fun h84 => ?_) (fun h84 => ?_)
          · refine mx_iconst (0) dM_retime_91 (by decide) ?_
            refine mx_istore_n dM_retime_92 (Nat.le_of_ble_eq_true rfl) rfl ?_
            refine mx_drop 3 ?_
            first
              | (rw [if_pos (i01_nz h84)] at hQ; exact hC _ _ hQ)
              | (rw [i01_z h84, if_neg (by decide)] at hQ; exact hC _ _ hQ)
          · refine mx_iconst (1) dM_retime_87 (by decide) ?_
            refine mx_goto 92 dM_retime_88 rfl ?_
            refine mx_istore_n dM_retime_92 (Nat.le_of_ble_eq_true rfl) rfl ?_
            refine mx_drop 3 ?_
            first
              | (rw [if_pos (i01_nz h84)] at hQ; exact hC _ _ hQ)
              | (rw [i01_z h84, if_neg (by decide)] at hQ; exact hC _ _ hQ)
      · refine mx_iconst (0) dM_retime_76 (by decide) ?_
        refine mx_iret dM_retime_77 rfl rfl ?_
        rw [i01_z h73, if_neg (by decide)] at h
        cases h
        exact hQ
  have hR1 : ∀ J : Nat → Nat → Int32, (∀ w, w < 27 → J 3 w ≤ 12) → rRt1 c J k = some q → mx_W mx_K mT mCl jM_retime (mR 4 96) 44 [.ref 0, .int k, .retAddr 0, .retAddr 0] [] (rp 0 (nI c) J) Q := by
    intro J hJ h
    unfold rRt1 at h
    cases hf : rFind c J k 6 with
    | none => rw [hf] at h; cases h
    | some s =>
      rw [hf] at h
      simp only [] at h
      refine mx_aload_n dM_retime_44 rfl ?_
      refine mx_iload_n dM_retime_45 rfl ?_
      refine mx_bipush (6) dM_retime_46 (by decide) ?_
      refine mx_V1 (R' := (mR 3 70)) [_, _] _ dM_retime_48 rfl mT_G jM_find_ok jM_find_v lkM_110 ⟨rfl, rfl, Nat.le_of_ble_eq_true rfl, Nat.le_of_ble_eq_true rfl⟩ rfl rfl (Nat.le_of_ble_eq_true rfl) (Nat.le_of_ble_eq_true rfl) rfl rfl rfl (fun Qc qc => cM_find hc hJ hf qc) ?_
      refine mx_if_ne 56 dM_retime_51 rfl (fun h51 => ?_) (fun h51 => ?_)
      · rw [if_pos (i01_nz h51)] at h
        cases hg : rFol c (upI J 10 s.1) with
        | none => rw [hg] at h; cases h
        | some z =>
          rw [hg] at h
          simp only [] at h
          refine mx_iconst (2) dM_retime_56 (by decide) ?_
          refine mx_istore_n dM_retime_57 (Nat.le_of_ble_eq_true rfl) rfl ?_
          refine mx_aload_n dM_retime_58 rfl ?_
          refine mx_V1 (R' := (mR 2 51)) [] _ dM_retime_59 rfl mT_G jM_follow_ok jM_follow_v lkM_137 ⟨rfl, rfl, Nat.le_of_ble_eq_true rfl, Nat.le_of_ble_eq_true rfl⟩ rfl rfl (Nat.le_of_ble_eq_true rfl) (Nat.le_of_ble_eq_true rfl) rfl rfl rfl (fun Qc qc => cM_follow hc hg qc) ?_
          refine mx_if_ne 93 dM_retime_62 rfl (fun h62 => ?_) (fun h62 => ?_)
          · rw [if_pos (i01_nz h62)] at h
            cases h
            exact hC _ _ hQ
          · rw [i01_z h62, if_neg (by decide)] at h
            exact hR2 _ (fun w hw => by rw [fI_ne (by decide) (by decide) (by decide), upI_ne _ _ (by decide)]; exact hJ w hw) h
      · refine mx_iconst (0) dM_retime_54 (by decide) ?_
        refine mx_iret dM_retime_55 rfl rfl ?_
        rw [i01_z h51, if_neg (by decide)] at h
        cases h
        exact hQ
  unfold rRet at hs
  refine mx_aload_n dM_retime_0 rfl ?_
  refine mx_aload_n dM_retime_1 rfl ?_
  refine mx_V1 (R' := (mR 2 46)) [] _ dM_retime_2 rfl mT_G jM_isSound_ok jM_isSound_v lkM_92 ⟨rfl, rfl, Nat.le_of_ble_eq_true rfl, Nat.le_of_ble_eq_true rfl⟩ rfl rfl (Nat.le_of_ble_eq_true rfl) (Nat.le_of_ble_eq_true rfl) rfl rfl rfl (fun Qc qc => cM_isSound hc hfr qc) ?_
  refine mx_if_ne 12 dM_retime_5 rfl (fun h5 => ?_) (fun h5 => ?_)
  · refine mx_iload_n dM_retime_12 rfl ?_
    refine mx_if_lt 23 dM_retime_13 rfl (fun h13 => ?_) (fun h13 => ?_)
    · rw [if_pos (i01_nz h5)] at hs
      first | rw [if_pos h13] at hs | rw [if_neg h13, if_pos h20] at hs
      cases hs
      refine mx_iconst (2) dM_retime_23 (by decide) ?_
      refine mx_goto 28 dM_retime_24 rfl ?_
      refine mx_put 8 0 (.int) dM_retime_28 fpM_49 rfl (Nat.le_of_ble_eq_true rfl) rfl rfl ?_
      refine mx_aload_n dM_retime_31 rfl ?_
      refine mx_get 8 0 dM_retime_32 fgM_49 rfl rfl ?_
      refine mx_if_eq 40 dM_retime_35 rfl (fun h35 => ?_) (fun h35 => ?_)
      · exact absurd h35 (by decide)
      refine mx_iconst (0) dM_retime_38 (by decide) ?_
      refine mx_iret dM_retime_39 rfl rfl ?_
      exact hQ
    · refine mx_iload_n dM_retime_16 rfl ?_
      refine mx_sipush (600) dM_retime_17 (by decide) ?_
      refine mx_icmp_le 27 dM_retime_20 rfl (fun h20 => ?_) (fun h20 => ?_)
      · rw [if_pos (i01_nz h5), if_neg h13, if_neg (fun q => q h20)] at hs
        refine mx_iconst (0) dM_retime_27 (by decide) ?_
        refine mx_put 8 0 (.int) dM_retime_28 fpM_49 rfl (Nat.le_of_ble_eq_true rfl) rfl rfl ?_
        refine mx_aload_n dM_retime_31 rfl ?_
        refine mx_get 8 0 dM_retime_32 fgM_49 rfl rfl ?_
        refine mx_if_eq 40 dM_retime_35 rfl (fun h35 => ?_) (fun h35 => ?_)
        rotate_left
        · exact absurd rfl h35
        refine mx_aload_n dM_retime_40 rfl ?_
        refine mx_V1 (R' := (mR 1 20)) [] _ dM_retime_41 rfl mT_G jM_measure_ok jM_measure_v lkM_95 ⟨rfl, rfl, Nat.le_of_ble_eq_true rfl, Nat.le_of_ble_eq_true rfl⟩ rfl rfl (Nat.le_of_ble_eq_true rfl) (Nat.le_of_ble_eq_true rfl) rfl rfl rfl (fun Qc qc => cM_measure hc (fun w hw => by rw [rSnI_ne (by decide)]; exact hfr w hw) qc) ?_
        exact hR1 (rK c I) (fun w hw => by rw [rK_ne (by decide) (by decide)]; exact hfr w hw) hs
      · rw [if_pos (i01_nz h5)] at hs
        first | rw [if_pos h13] at hs | rw [if_neg h13, if_pos h20] at hs
        cases hs
        refine mx_iconst (2) dM_retime_23 (by decide) ?_
        refine mx_goto 28 dM_retime_24 rfl ?_
        refine mx_put 8 0 (.int) dM_retime_28 fpM_49 rfl (Nat.le_of_ble_eq_true rfl) rfl rfl ?_
        refine mx_aload_n dM_retime_31 rfl ?_
        refine mx_get 8 0 dM_retime_32 fgM_49 rfl rfl ?_
        refine mx_if_eq 40 dM_retime_35 rfl (fun h35 => ?_) (fun h35 => ?_)
        · exact absurd h35 (by decide)
        refine mx_iconst (0) dM_retime_38 (by decide) ?_
        refine mx_iret dM_retime_39 rfl rfl ?_
        exact hQ
  · rw [i01_z h5, if_neg (by decide)] at hs
    cases hs
    refine mx_iconst (1) dM_retime_8 (by decide) ?_
    refine mx_goto 28 dM_retime_9 rfl ?_
    refine mx_put 8 0 (.int) dM_retime_28 fpM_49 rfl (Nat.le_of_ble_eq_true rfl) rfl rfl ?_
    refine mx_aload_n dM_retime_31 rfl ?_
    refine mx_get 8 0 dM_retime_32 fgM_49 rfl rfl ?_
    refine mx_if_eq 40 dM_retime_35 rfl (fun h35 => ?_) (fun h35 => ?_)
    · exact absurd h35 (by decide)
    refine mx_iconst (0) dM_retime_38 (by decide) ?_
    refine mx_iret dM_retime_39 rfl rfl ?_
    exact hQ
