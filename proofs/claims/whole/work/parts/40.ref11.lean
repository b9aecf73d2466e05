/-! The reference: follow. -/
theorem lp_cpy (g f : Nat → Int32) : ∀ n j, j < n → lp (fun j f => upd f j (g j)) n f j = g j := by
  intro n
  induction n with
  | zero => intro j hj; omega
  | succ n ih =>
    intro j hj
    show upd (lp (fun j f => upd f j (g j)) n f) n (g n) j = g j
    by_cases e : j = n
    · subst e; exact pk_us
    · rw [pk_un e]; exact ih j (by omega)
theorem tI_s11 (J : Nat → Nat → Int32) (s : tS) (f : Nat → Int32) : upI (tI J s) 11 f = tI (upI J 11 f) s := by
  unfold tI
  rw [upI_comm _ _ _ (by decide : (8 : Nat) ≠ 11), upI_comm _ _ _ (by decide : (7 : Nat) ≠ 11)]
theorem rFwd_ext {I J : Nat → Nat → Int32} (h1 : J 1 = I 1) (h3 : J 3 = I 3) (g : Nat) (s : tS) : rFwd J g s = rFwd I g s := by
  have e1 : rF2 J g s = rF2 I g s := by unfold rF2; rw [h1]
  have e2 : ∀ v, rOw J g v = rOw I g v := fun v => by funext i t; unfold rOw; rw [h3]
  unfold rFwd
  rw [e1, e2, h1]
theorem rBwd_ext {I J : Nat → Nat → Int32} (h1 : J 1 = I 1) (h3 : J 3 = I 3) (g : Nat) (s : tS) : rBwd J g s = rBwd I g s := by
  have e2 : ∀ T, rBw J g T = rBw I g T := fun v => by funext i t; unfold rBw; rw [h3]
  have e3 : ∀ a b t, rBt J g a b t = rBt I g a b t := fun a b t => by unfold rBt; rw [h1]
  unfold rBwd rBq
  rw [e2, h1, e3]
def tBb (M : Nat → Int32) : Bool := allB 27 (fun w => decide (¬ M w < 0 ∧ ¬ (40 : Int32) ≤ M w))
theorem tBb_tB {M : Nat → Int32} (h : tBb M = true) : tB 40 M := fun w hw => by
  obtain ⟨h1, h2⟩ := of_decide_eq_true (allB_iff.mp h w hw)
  exact i32_nat h1 h2 (by decide) (by decide)
/-- tried and triedMany; left; moved -/
abbrev fS : Type := tS × (Nat → Int32) × Bool
def rSt (I : Nat → Nat → Int32) (g : Nat) (s : fS) : fS × Bool := if ¬ 0 ≤ s.2.1 g ∧ rCF (I 1) s.1.2 g = true then ((rFwd I g s.1, upd s.2.1 g (s.2.1 g + 1), true), true) else if ¬ s.2.1 g ≤ 0 ∧ rCB (I 3) s.1.2 g = true then (if (rBwd I g s.1).2 = true then (((rBwd I g s.1).1, upd s.2.1 g (s.2.1 g - 1), true), true) else (((rBwd I g s.1).1, s.2.1, s.2.2), false)) else (s, true)
def rEa (I : Nat → Nat → Int32) : Nat → Nat → fS → Option (fS × Bool)
  | 0, _, s => some (s, true)
  | k + 1, u, s => if tBb s.1.2 = false then none else if (rSt I (u + 1) s).2 = true then rEa I k (u + 1) (rSt I (u + 1) s).1 else some ((rSt I (u + 1) s).1, false)
def rFo (c : Nat) (I : Nat → Nat → Int32) : Nat → fS → Option (fS × Bool)
  | 0, _ => none
  | n + 1, s => if s.2.2 = false then some (s, true) else match rEa I c 0 (s.1, s.2.1, false) with
    | none => none
    | some q => if q.2 = true then rFo c I n q.1 else some q
def rTl (g : Nat → Int32) (i : Nat) (f : Nat → Int32) : Nat → Int32 := upd f (i + 1) (g (i + 1))
def rFol (c : Nat) (I : Nat → Nat → Int32) : Option (fS × Bool) := rFo c I 200 ((I 5, I 4), lp (rTl (I 10)) c (I 11), true)
/-- the cells with what follow leaves -/
def fI (I : Nat → Nat → Int32) (s : fS) : Nat → Nat → Int32 := tI (upI I 11 s.2.1) s.1
theorem cM_follow {c : Nat} {thr : Int32} {I : Nat → Nat → Int32} {Q : mx_O → List va_E → Prop} (hc : c ≤ 12) {q : fS × Bool} (hs : rFol c I = some q) (hQ : Q (.inl (some (.int (i01 q.2)))) (rp thr (nI c) (fI I q.1))) : mx_W mx_K mT mCl jM_follow (mR 2 51) 0 [.ref 0, .retAddr 0, .retAddr 0] [] (rp thr (nI c) I) Q := by
  have hE : ∀ (q : fS × Bool), (q.2 = true → mx_W mx_K mT mCl jM_follow (mR 2 51) 83 [.ref 0, .int (i01 q.1.2.2), .retAddr 0] [] (rp thr (nI c) (fI I (q.1))) Q) → (q.2 = false → Q (.inl (some (.int (0)))) (rp thr (nI c) (fI I (q.1)))) → ∀ (k u : Nat) (t : tS) (l : Nat → Int32) (mv : Bool), u + k = c → rEa I k u (t, l, mv) = some q → mx_W mx_K mT mCl jM_follow (mR 2 51) 91 [.ref 0, .int (i01 mv), .int (nI (u + 1))] [] (rp thr (nI c) (tI (upI I 11 l) t)) Q := by
    intro q q1 q2 k
    induction k with
    | zero =>
      intro u t l mv hu h
      unfold rEa at h
      cases h
      have hu : u = c := by omega
      subst hu
      refine mx_iload_n dM_follow_91 rfl ?_
      refine mx_aload_n dM_follow_92 rfl ?_
      refine mx_get 8 1 dM_follow_93 fgM_53 rfl rfl ?_
      refine mx_icmp_gt 181 dM_follow_96 rfl (fun h96 => ?_) (fun h96 => ?_)
      rotate_left
      · exact absurd (nI_lt (Nat.lt_succ_self u) (by omega)) h96
      refine mx_goto 83 dM_follow_181 rfl ?_
      refine mx_drop 2 ?_
      exact q1 rfl
    | succ k ihk =>
      intro u t l mv hu h
      unfold rEa at h
      have hb : tB 40 t.2 := by
        cases hbb : tBb t.2 with
        | true => exact tBb_tB hbb
        | false => rw [show (t, l, mv).1.2 = t.2 from rfl, hbb, if_pos rfl] at h; cases h
      have hbb : ¬ tBb (t, l, mv).1.2 = false := by
        intro e
        rw [e, if_pos rfl] at h
        cases h
      rw [if_neg hbb] at h
      have go : ∀ (t2 : tS) (l2 : Nat → Int32) (mv2 : Bool), rSt I (u + 1) (t, l, mv) = ((t2, l2, mv2), true) → mx_W mx_K mT mCl jM_follow (mR 2 51) 175 [.ref 0, .int (i01 mv2), .int (nI (u + 1))] [] (rp thr (nI c) (tI (upI I 11 l2) t2)) Q := by
        intro t2 l2 mv2 e
        rw [e, if_pos rfl] at h
        refine mx_iinc dM_follow_175 rfl (mx_inc _) (Nat.le_of_ble_eq_true rfl) rfl ?_
        refine mx_goto 91 dM_follow_178 rfl ?_
        exact ihk (u + 1) t2 l2 mv2 (by omega) h
      have bk : ¬ (¬ 0 ≤ l (u + 1) ∧ rCF (I 1) t.2 (u + 1) = true) → mx_W mx_K mT mCl jM_follow (mR 2 51) 136 [.ref 0, .int (i01 mv), .int (nI (u + 1))] [] (rp thr (nI c) (tI (upI I 11 l) t)) Q := by
        intro hn
        have es : rSt I (u + 1) (t, l, mv) = (if ¬ l (u + 1) ≤ 0 ∧ rCB (I 3) t.2 (u + 1) = true then (if (rBwd I (u + 1) t).2 = true then (((rBwd I (u + 1) t).1, upd l (u + 1) (l (u + 1) - 1), true), true) else (((rBwd I (u + 1) t).1, l, mv), false)) else ((t, l, mv), true)) := if_neg hn
        refine mx_aload_n dM_follow_136 rfl ?_
        refine mx_get 8 12 dM_follow_137 fgM_40 rfl rfl ?_
        refine mx_iload_n dM_follow_140 rfl ?_
        refine mx_iald dM_follow_141 rfl (vp_in_nI (by omega) (by decide)) ?_
        rw [nI_clamp (by omega), tI_ne (by decide) (by decide), upI_self]
        refine mx_if_le 175 dM_follow_142 rfl (fun h142 => ?_) (fun h142 => ?_)
        · first
            | exact go t l mv (es.trans (if_neg (fun q => Bool.false_ne_true ((i01_z h150).symm.trans q.2))))
            | exact go t l mv (es.trans (if_neg (fun q => q.1 h142)))
        · refine mx_aload_n dM_follow_145 rfl ?_
          refine mx_iload_n dM_follow_146 rfl ?_
          refine mx_V1 (R' := (mR 0 0)) [_] _ dM_follow_147 rfl mT_G jM_canBackward_ok jM_canBackward_v lkM_131 ⟨rfl, rfl, Nat.le_of_ble_eq_true rfl, Nat.le_of_ble_eq_true rfl⟩ rfl rfl (Nat.le_of_ble_eq_true rfl) (Nat.le_of_ble_eq_true rfl) rfl rfl rfl (fun Qc qc => cM_canBackward qc) ?_
          rw [tI_ne (by decide) (by decide), upI_ne _ _ (by decide), tI_8]
          refine mx_if_eq 175 dM_follow_150 rfl (fun h150 => ?_) (fun h150 => ?_)
          · first
              | exact go t l mv (es.trans (if_neg (fun q => Bool.false_ne_true ((i01_z h150).symm.trans q.2))))
              | exact go t l mv (es.trans (if_neg (fun q => q.1 h142)))
          · have hcb := i01_nz h150
            rw [if_pos ⟨h142, hcb⟩] at es
            have ebw : rBwd (upI I 11 l) (u + 1) t = rBwd I (u + 1) t := rBwd_ext (upI_ne _ _ (by decide)) (upI_ne _ _ (by decide)) _ _
            refine mx_aload_n dM_follow_153 rfl ?_
            refine mx_iload_n dM_follow_154 rfl ?_
            refine mx_V1 (R' := (mR 1 23)) [_] _ dM_follow_155 rfl mT_G jM_backward_ok jM_backward_v lkM_134 ⟨rfl, rfl, Nat.le_of_ble_eq_true rfl, Nat.le_of_ble_eq_true rfl⟩ rfl rfl (Nat.le_of_ble_eq_true rfl) (Nat.le_of_ble_eq_true rfl) rfl rfl rfl (fun Qc qc => cM_backward (by omega) (by omega) hb (by rw [upI_ne _ _ (by decide)]; exact hcb) qc) ?_
            rw [ebw]
            refine mx_if_ne 163 dM_follow_158 rfl (fun h158 => ?_) (fun h158 => ?_)
            · refine mx_aload_n dM_follow_163 rfl ?_
              refine mx_get 8 12 dM_follow_164 fgM_40 rfl rfl ?_
              refine mx_iload_n dM_follow_167 rfl ?_
              refine mx_dup2 dM_follow_168 rfl rfl ?_
              refine mx_iald dM_follow_169 rfl (vp_in_nI (by omega) (by decide)) ?_
              rw [nI_clamp (by omega), tI_ne (by decide) (by decide), upI_self]
              refine mx_iconst (1) dM_follow_170 (by decide) ?_
              refine mx_isub dM_follow_171 ?_
              refine mx_iast dM_follow_172 rfl (vp_in_nI (by omega) (by decide)) ?_
              rw [nI_clamp (by omega)]
              refine mx_eqs rfl rfl rfl (rp_11 _) ?_
              rw [tI_ne (by decide) (by decide), upI_self, tI_s11, upI_upI]
              refine mx_iconst (1) dM_follow_173 (by decide) ?_
              refine mx_istore_n dM_follow_174 (Nat.le_of_ble_eq_true rfl) rfl ?_
              rw [if_pos (i01_nz h158)] at es
              exact go _ _ true es
            · refine mx_iconst (0) dM_follow_161 (by decide) ?_
              refine mx_iret dM_follow_162 rfl rfl ?_
              rw [i01_z h158, if_neg (by decide)] at es
              rw [es] at h
              simp only [Bool.false_eq_true, if_false] at h
              cases h
              exact q2 rfl
      refine mx_iload_n dM_follow_91 rfl ?_
      refine mx_aload_n dM_follow_92 rfl ?_
      refine mx_get 8 1 dM_follow_93 fgM_53 rfl rfl ?_
      refine mx_icmp_gt 181 dM_follow_96 rfl (fun h96 => ?_) (fun h96 => ?_)
      · exact absurd h96 (nI_nlt (by omega) (by omega))
      refine mx_aload_n dM_follow_99 rfl ?_
      refine mx_get 8 12 dM_follow_100 fgM_40 rfl rfl ?_
      refine mx_iload_n dM_follow_103 rfl ?_
      refine mx_iald dM_follow_104 rfl (vp_in_nI (by omega) (by decide)) ?_
      rw [nI_clamp (by omega), tI_ne (by decide) (by decide), upI_self]
      refine mx_if_ge 136 dM_follow_105 rfl (fun h105 => ?_) (fun h105 => ?_)
      · first
          | exact bk (fun q => Bool.false_ne_true ((i01_z h113).symm.trans q.2))
          | exact bk (fun q => q.1 h105)
      · refine mx_aload_n dM_follow_108 rfl ?_
        refine mx_iload_n dM_follow_109 rfl ?_
        refine mx_V1 (R' := (mR 1 21)) [_] _ dM_follow_110 rfl mT_G jM_canForward_ok jM_canForward_v lkM_124 ⟨rfl, rfl, Nat.le_of_ble_eq_true rfl, Nat.le_of_ble_eq_true rfl⟩ rfl rfl (Nat.le_of_ble_eq_true rfl) (Nat.le_of_ble_eq_true rfl) rfl rfl rfl (fun Qc qc => cM_canForward (by omega) (by omega) qc) ?_
        rw [tI_ne (by decide) (by decide), upI_ne _ _ (by decide), tI_8]
        refine mx_if_eq 136 dM_follow_113 rfl (fun h113 => ?_) (fun h113 => ?_)
        · first
            | exact bk (fun q => Bool.false_ne_true ((i01_z h113).symm.trans q.2))
            | exact bk (fun q => q.1 h105)
        · have hcf := i01_nz h113
          have efw : rFwd (upI I 11 l) (u + 1) t = rFwd I (u + 1) t := rFwd_ext (upI_ne _ _ (by decide)) (upI_ne _ _ (by decide)) _ _
          refine mx_aload_n dM_follow_116 rfl ?_
          refine mx_iload_n dM_follow_117 rfl ?_
          refine mx_V1 (R' := (mR 1 23)) [_] _ dM_follow_118 rfl mT_G jM_forward_ok jM_forward_v lkM_127 ⟨rfl, rfl, Nat.le_of_ble_eq_true rfl, Nat.le_of_ble_eq_true rfl⟩ rfl rfl (Nat.le_of_ble_eq_true rfl) (Nat.le_of_ble_eq_true rfl) rfl rfl rfl (fun Qc qc => cM_forward (by omega) (by omega) hb (by rw [upI_ne _ _ (by decide)]; exact hcf) qc) ?_
          rw [efw]
          refine mx_aload_n dM_follow_121 rfl ?_
          refine mx_get 8 12 dM_follow_122 fgM_40 rfl rfl ?_
          refine mx_iload_n dM_follow_125 rfl ?_
          refine mx_dup2 dM_follow_126 rfl rfl ?_
          refine mx_iald dM_follow_127 rfl (vp_in_nI (by omega) (by decide)) ?_
          rw [nI_clamp (by omega), tI_ne (by decide) (by decide), upI_self]
          refine mx_iconst (1) dM_follow_128 (by decide) ?_
          refine mx_iadd dM_follow_129 ?_
          refine mx_iast dM_follow_130 rfl (vp_in_nI (by omega) (by decide)) ?_
          rw [nI_clamp (by omega)]
          refine mx_eqs rfl rfl rfl (rp_11 _) ?_
          rw [tI_ne (by decide) (by decide), upI_self, tI_s11, upI_upI]
          refine mx_iconst (1) dM_follow_131 (by decide) ?_
          refine mx_istore_n dM_follow_132 (Nat.le_of_ble_eq_true rfl) rfl ?_
          refine mx_goto 175 dM_follow_133 rfl ?_
          exact go _ _ true (if_pos ⟨h105, hcf⟩)
  have hW : ∀ (m : Nat) (s : fS), rFo c I m s = some q → mx_W mx_K mT mCl jM_follow (mR 2 51) 83 [.ref 0, .int (i01 s.2.2), .retAddr 0] [] (rp thr (nI c) (fI I (s))) Q := by
    intro m
    induction m with
    | zero =>
      intro s h
      unfold rFo at h
      cases h
    | succ m ihm =>
      intro s h
      unfold rFo at h
      refine mx_iload_n dM_follow_83 rfl ?_
      refine mx_if_eq 184 dM_follow_84 rfl (fun h84 => ?_) (fun h84 => ?_)
      · refine mx_iconst (1) dM_follow_184 (by decide) ?_
        refine mx_iret dM_follow_185 rfl rfl ?_
        rw [i01_z h84, if_pos rfl] at h
        cases h
        exact hQ
      · refine mx_iconst (0) dM_follow_87 (by decide) ?_
        refine mx_istore_n dM_follow_88 (Nat.le_of_ble_eq_true rfl) rfl ?_
        refine mx_iconst (1) dM_follow_89 (by decide) ?_
        refine mx_istore_n dM_follow_90 (Nat.le_of_ble_eq_true rfl) rfl ?_
        rw [i01_nz h84, if_neg (by decide)] at h
        cases hr : rEa I c 0 (s.1, s.2.1, false) with
        | none => rw [hr] at h; cases h
        | some z =>
          rw [hr] at h
          have h : (if z.2 = true then rFo c I m z.1 else some z) = some q := h
          refine hE z (fun e => ?_) (fun e => ?_) c 0 s.1 s.2.1 false (Nat.zero_add _) hr
          · rw [if_pos e] at h
            exact ihm z.1 h
          · rw [if_neg (by rw [e]; decide)] at h
            cases h
            rw [e] at hQ
            exact hQ
  have h3 : ∀ i, i ≤ c → mx_W mx_K mT mCl jM_follow (mR 2 51) 55 [.ref 0, .int (nI (i + 1)), .retAddr 0] [] (rp thr (nI c) (tI (upI I 11 (lp (rTl (I 10)) i (I 11))) (I 5, I 4))) Q := by
    refine lp_down ?_ ?_
    · refine mx_iload_n dM_follow_55 rfl ?_
      refine mx_aload_n dM_follow_56 rfl ?_
      refine mx_get 8 1 dM_follow_57 fgM_53 rfl rfl ?_
      refine mx_icmp_gt 81 dM_follow_60 rfl (fun h60 => ?_) (fun h60 => ?_)
      rotate_left
      · exact absurd (nI_lt (Nat.lt_succ_self c) (by omega)) h60
      refine mx_iconst (1) dM_follow_81 (by decide) ?_
      refine mx_istore_n dM_follow_82 (Nat.le_of_ble_eq_true rfl) rfl ?_
      exact hW 200 _ hs
    · intro i hi ih
      have ih : mx_W mx_K mT mCl jM_follow (mR 2 51) 55 [.ref 0, .int (nI (i + 1 + 1)), .retAddr 0] [] (rp thr (nI c) (tI (upI I 11 (upd (lp (rTl (I 10)) i (I 11)) (i + 1) (I 10 (i + 1)))) (I 5, I 4))) Q := ih
      generalize lp (rTl (I 10)) i (I 11) = f at ih ⊢
      refine mx_iload_n dM_follow_55 rfl ?_
      refine mx_aload_n dM_follow_56 rfl ?_
      refine mx_get 8 1 dM_follow_57 fgM_53 rfl rfl ?_
      refine mx_icmp_gt 81 dM_follow_60 rfl (fun h60 => ?_) (fun h60 => ?_)
      · exact absurd h60 (nI_nlt (by omega) (by omega))
      refine mx_aload_n dM_follow_63 rfl ?_
      refine mx_get 8 12 dM_follow_64 fgM_40 rfl rfl ?_
      refine mx_iload_n dM_follow_67 rfl ?_
      refine mx_aload_n dM_follow_68 rfl ?_
      refine mx_get 8 11 dM_follow_69 fgM_37 rfl rfl ?_
      refine mx_iload_n dM_follow_72 rfl ?_
      refine mx_iald dM_follow_73 rfl (vp_in_nI (by omega) (by decide)) ?_
      rw [nI_clamp (by omega), tI_ne (by decide) (by decide), upI_ne _ _ (by decide)]
      refine mx_iast dM_follow_74 rfl (vp_in_nI (by omega) (by decide)) ?_
      rw [nI_clamp (by omega)]
      refine mx_eqs rfl rfl rfl (rp_11 _) ?_
      rw [tI_ne (by decide) (by decide), upI_self, tI_s11, upI_upI]
      refine mx_iinc dM_follow_75 rfl (mx_inc _) (Nat.le_of_ble_eq_true rfl) rfl ?_
      refine mx_goto 55 dM_follow_78 rfl ?_
      exact ih
  have h2 : ∀ i, i ≤ 1080 → mx_W mx_K mT mCl jM_follow (mR 2 51) 28 [.ref 0, .int (nI i), .retAddr 0] [] (rp thr (nI c) (upI (upI I 8 (I 4)) 7 (lp (fun j f => upd f j (I 5 j)) i (I 7)))) Q := by
    refine lp_down ?_ ?_
    · generalize hf : lp (fun j f => upd f j (I 5 j)) 1080 (I 7) = f
      refine mx_ext (b := 7) (v := (1080, .inl (I 5))) (show (rp thr (nI c) (upI (upI I 8 (I 4)) 7 f))[7]? = some (eI 1080 f) from rfl) (mx_fi (fun j hj => by rw [← hf]; exact lp_cpy (I 5) (I 7) 1080 j hj)) ?_
      refine mx_eqs (hp' := rp thr (nI c) (tI (upI I 11 (I 11)) (I 5, I 4))) rfl rfl rfl (by rw [upI_own, show tI I (I 5, I 4) = upI (upI I 8 (I 4)) 7 (I 5) from by unfold tI; exact upI_comm _ _ _ (by decide), ← upI_upI (upI I 8 (I 4)) 7 f (I 5)]; rfl) ?_
      refine mx_iload_n dM_follow_28 rfl ?_
      refine mx_sipush (1080) dM_follow_29 (by decide) ?_
      refine mx_icmp_ge 53 dM_follow_32 rfl (fun h32 => ?_) (fun h32 => ?_)
      rotate_left
      · exact absurd (show (1080 : Int32) ≤ nI 1080 by decide) h32
      refine mx_iconst (1) dM_follow_53 (by decide) ?_
      refine mx_istore_n dM_follow_54 (Nat.le_of_ble_eq_true rfl) rfl ?_
      exact h3 0 (Nat.zero_le _)
    · intro i hi ih
      have ih : mx_W mx_K mT mCl jM_follow (mR 2 51) 28 [.ref 0, .int (nI (i + 1)), .retAddr 0] [] (rp thr (nI c) (upI (upI I 8 (I 4)) 7 (upd (lp (fun j f => upd f j (I 5 j)) i (I 7)) i (I 5 i)))) Q := ih
      generalize lp (fun j f => upd f j (I 5 j)) i (I 7) = f at ih ⊢
      refine mx_iload_n dM_follow_28 rfl ?_
      refine mx_sipush (1080) dM_follow_29 (by decide) ?_
      refine mx_icmp_ge 53 dM_follow_32 rfl (fun h32 => ?_) (fun h32 => ?_)
      · exact absurd h32 (nI_ge (b := 1080) hi (by decide))
      refine mx_aload_n dM_follow_35 rfl ?_
      refine mx_get 8 8 dM_follow_36 fgM_28 rfl rfl ?_
      refine mx_iload_n dM_follow_39 rfl ?_
      refine mx_aload_n dM_follow_40 rfl ?_
      refine mx_get 8 6 dM_follow_41 fgM_22 rfl rfl ?_
      refine mx_iload_n dM_follow_44 rfl ?_
      refine mx_iald dM_follow_45 rfl (vp_in_nI (by omega) (by decide)) ?_
      rw [nI_clamp (by omega), upI_ne _ _ (by decide), upI_ne _ _ (by decide)]
      refine mx_iast dM_follow_46 rfl (vp_in_nI (by omega) (by decide)) ?_
      rw [nI_clamp (by omega)]
      refine mx_eqs rfl rfl rfl (rp_7 _) ?_
      rw [upI_self, upI_upI]
      refine mx_iinc dM_follow_47 rfl (mx_inc _) (Nat.le_of_ble_eq_true rfl) rfl ?_
      refine mx_goto 28 dM_follow_50 rfl ?_
      exact ih
  have h1 : ∀ i, i ≤ 27 → mx_W mx_K mT mCl jM_follow (mR 2 51) 2 [.ref 0, .int (nI i), .retAddr 0] [] (rp thr (nI c) (upI I 8 (lp (fun j f => upd f j (I 4 j)) i (I 8)))) Q := by
    refine lp_down ?_ ?_
    · generalize hf : lp (fun j f => upd f j (I 4 j)) 27 (I 8) = f
      refine mx_ext (b := 8) (v := (27, .inl (I 4))) (show (rp thr (nI c) (upI I 8 f))[8]? = some (eI 27 f) from rfl) (mx_fi (fun j hj => by rw [← hf]; exact lp_cpy (I 4) (I 8) 27 j hj)) ?_
      refine mx_eqs (hp' := rp thr (nI c) (upI (upI I 8 (I 4)) 7 (I 7))) rfl rfl rfl (by rw [show upI (upI I 8 (I 4)) 7 (I 7) = upI I 8 (I 4) from upI_own (upI I 8 (I 4)) 7, ← upI_upI I 8 f (I 4)]; rfl) ?_
      refine mx_iload_n dM_follow_2 rfl ?_
      refine mx_bipush (27) dM_follow_3 (by decide) ?_
      refine mx_icmp_ge 26 dM_follow_5 rfl (fun h5 => ?_) (fun h5 => ?_)
      rotate_left
      · exact absurd (show (27 : Int32) ≤ nI 27 by decide) h5
      refine mx_iconst (0) dM_follow_26 (by decide) ?_
      refine mx_istore_n dM_follow_27 (Nat.le_of_ble_eq_true rfl) rfl ?_
      exact h2 0 (Nat.zero_le _)
    · intro i hi ih
      have ih : mx_W mx_K mT mCl jM_follow (mR 2 51) 2 [.ref 0, .int (nI (i + 1)), .retAddr 0] [] (rp thr (nI c) (upI I 8 (upd (lp (fun j f => upd f j (I 4 j)) i (I 8)) i (I 4 i)))) Q := ih
      generalize lp (fun j f => upd f j (I 4 j)) i (I 8) = f at ih ⊢
      refine mx_iload_n dM_follow_2 rfl ?_
      refine mx_bipush (27) dM_follow_3 (by decide) ?_
      refine mx_icmp_ge 26 dM_follow_5 rfl (fun h5 => ?_) (fun h5 => ?_)
      · exact absurd h5 (nI_ge (b := 27) hi (by decide))
      refine mx_aload_n dM_follow_8 rfl ?_
      refine mx_get 8 9 dM_follow_9 fgM_31 rfl rfl ?_
      refine mx_iload_n dM_follow_12 rfl ?_
      refine mx_aload_n dM_follow_13 rfl ?_
      refine mx_get 8 5 dM_follow_14 fgM_19 rfl rfl ?_
      refine mx_iload_n dM_follow_17 rfl ?_
      refine mx_iald dM_follow_18 rfl (vp_in_nI (by omega) (by decide)) ?_
      rw [nI_clamp (by omega), upI_ne _ _ (by decide)]
      refine mx_iast dM_follow_19 rfl (vp_in_nI (by omega) (by decide)) ?_
      rw [nI_clamp (by omega)]
      refine mx_eqs rfl rfl rfl (rp_8 _) ?_
      rw [upI_self, upI_upI]
      refine mx_iinc dM_follow_20 rfl (mx_inc _) (Nat.le_of_ble_eq_true rfl) rfl ?_
      refine mx_goto 2 dM_follow_23 rfl ?_
      exact ih
  refine mx_iconst (0) dM_follow_0 (by decide) ?_
  refine mx_istore_n dM_follow_1 (Nat.le_of_ble_eq_true rfl) rfl ?_
  refine mx_eqs rfl rfl rfl ?_ (h1 0 (Nat.zero_le _))
  rw [lp_zero, upI_own]
