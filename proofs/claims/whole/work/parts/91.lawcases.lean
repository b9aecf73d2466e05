/-! The law's cases: class and reference answer alike, whatever is called. -/
abbrev wx (xs : Nat → Int32) (i k : Nat) : Int32 := xs (nI (i + k)).toNatClampNeg
abbrev wls (i : Nat) : List Value := [.ref 1000, .ref 0, .ref 68, .ref 67, .int (nI i), .retAddr 0, .retAddr 0]
abbrev wRn (h : List va_E) : List va_E := h.map (mx_e (fun k => k + 68) (fun t => t))
abbrev lP (ha : List va_E) (f : Nat → Int64) (hr : List va_E) : List va_E := (ha ++ [eo f]) ++ wRn hr
def lawZ : mx_ZT := fun _ _ _ _ below args s t => lw_Z below args s t
abbrev wB (LL : Nat) (xs : Nat → Int32) (n z k : Nat) (ls st : List Value) (hp : List va_E) : Prop := mx_B mT mCl jW room_1 [] (some (LL, xs)) lawZ false n z k ls st hp
/-- behind a case -/
def lawK (LL : Nat) (xs : Nat → Int32) (n z i : Nat) : Prop := ∀ (c : Nat) (fil : Int32) (I : Nat → Nat → Int32) (L : Nat → Nat → Int64) (thr : Int32) (J : Nat → Nat → Int32) (f : Nat → Int64), Rel c I L J → wB LL xs n z 973 (wls i) [] (lP (pic (nI c) fil I L) f (rp thr (nI c) J))
theorem wputH (R h : List va_E) (hn : h.length = 68) (q : Nat → Nat) (dT : Nat → ClassId) : mx_w q dT (h ++ R) = mx_w q dT h ++ R.mapIdx (fun i x => (q (i + 68), mx_e q dT x)) := by rw [mx_w_app, hn]
theorem wputM (a : List va_E) (ha : a.length = 68) (h : List va_E) (q : Nat → Nat) (dT : Nat → ClassId) : mx_w q dT (a ++ wRn h) = mx_w q dT a ++ (mx_w (fun j => q (j + 68)) dT h ++ []) := by rw [mx_w_app, ha, mx_w_off, List.append_nil]
theorem wputX (x : va_E) (R h : List va_E) (hn : h.length = 67) (q : Nat → Nat) (dT : Nat → ClassId) : mx_w q dT ((h ++ [x]) ++ R) = [] ++ (mx_w (fun j => q j) dT h ++ ((q 67, mx_e q dT x) :: R.mapIdx (fun i x => (q (i + 68), mx_e q dT x)))) := by
  have h2 : (h ++ [x]).length = 68 := by rw [List.length_append, hn]; rfl
  rw [mx_w_app, h2, mx_w_push, hn, List.append_assoc]
  rfl
theorem rp_len (a b : Int32) (I : Nat → Nat → Int32) : (rp a b I).length = 14 := rfl
theorem pic_len1 (a b : Int32) (I : Nat → Nat → Int32) (L : Nat → Nat → Int64) (x : va_E) : (pic a b I L ++ [x]).length = 68 := rfl
theorem ix_1 (i : Nat) : nI i + 1 = nI (i + 1) := nI_1 i
theorem ix_2 (i : Nat) : nI i + 2 = nI (i + 2) := by rw [show (2 : Int32) = nI 2 from rfl, nI_add]
theorem ix_3 (i : Nat) : nI i + 3 = nI (i + 3) := by rw [show (3 : Int32) = nI 3 from rfl, nI_add]
theorem ix_4 (i : Nat) : nI i + 4 = nI (i + 4) := by rw [show (4 : Int32) = nI 4 from rfl, nI_add]
theorem lcmp_0 {x y : Int64} (h : x = y) : lg_cmp x y = 0 := by
  unfold lg_cmp
  rw [h, if_neg (by rw [gt_iff_lt, Int64.lt_iff_toInt_lt]; omega), if_pos rfl]
theorem ag1 {a : Nat} {r : mx_O} {thr ans : Int32} (h : AgI [(a, 1)] r thr ans) : ((∃ v, r = .inl (some (.int v))) ∨ r = .inr a) ∧ thr = hkx [(a, 1)] r ∧ (hkx [(a, 1)] r = 0 → ∀ f, hfo f r 0 = ans.toInt64) := by
  cases r with
  | inl v =>
    obtain ⟨h1, h2⟩ := h
    subst h2
    exact ⟨Or.inl ⟨_, rfl⟩, h1, fun _ f => rfl⟩
  | inr k =>
    have h : (k, thr) ∈ [(a, 1)] := h
    rw [List.mem_singleton] at h
    cases h
    have e : hkx [(a, 1)] (.inr a) = 1 := by unfold hkx; simp
    exact ⟨Or.inr rfl, e.symm, fun q => by rw [e] at q; exact absurd q (by decide)⟩
theorem hkx_a {a b : Nat} : hkx [(a, 1), (b, 2)] (.inr a) = 1 := by unfold hkx; simp
theorem hkx_b {a b : Nat} (hab : a ≠ b) : hkx [(a, 1), (b, 2)] (.inr b) = 2 := by
  show ((([(a, 1), (b, 2)] : List (Nat × Int32)).find? (fun p => p.1 == b)).map (fun p => p.2)).getD 9 = 2
  rw [List.find?_cons_of_neg (by simpa using hab), List.find?_cons_of_pos (by simp)]
  rfl
theorem ag2 {a b : Nat} {r : mx_O} {thr ans : Int32} (hab : a ≠ b) (h : AgI [(a, 1), (b, 2)] r thr ans) : ((∃ v, r = .inl (some (.int v))) ∨ r = .inr a ∨ r = .inr b) ∧ thr = hkx [(a, 1), (b, 2)] r ∧ (hkx [(a, 1), (b, 2)] r = 0 → ∀ f, hfo f r 0 = ans.toInt64) := by
  cases r with
  | inl v =>
    obtain ⟨h1, h2⟩ := h
    subst h2
    exact ⟨Or.inl ⟨_, rfl⟩, h1, fun _ f => rfl⟩
  | inr k =>
    have h : (k, thr) ∈ [(a, 1), (b, 2)] := h
    rcases List.mem_cons.mp h with h | h
    · cases h
      exact ⟨Or.inr (Or.inl rfl), hkx_a.symm, fun q => by rw [hkx_a] at q; exact absurd q (by decide)⟩
    · rw [List.mem_singleton] at h
      cases h
      exact ⟨Or.inr (Or.inr rfl), (hkx_b hab).symm, fun q => by rw [hkx_b hab] at q; exact absurd q (by decide)⟩
theorem av2 {a b : Nat} {r : mx_O} {thr : Int32} (hab : a ≠ b) (h : AgV [(a, 1), (b, 2)] r thr) : (r = .inl none ∨ r = .inr a ∨ r = .inr b) ∧ thr = hkx [(a, 1), (b, 2)] r := by
  cases r with
  | inl v =>
    obtain ⟨h1, h2⟩ := h
    subst h2
    exact ⟨Or.inl rfl, h1⟩
  | inr k =>
    have h : (k, thr) ∈ [(a, 1), (b, 2)] := h
    rcases List.mem_cons.mp h with h | h
    · cases h
      exact ⟨Or.inr (Or.inl rfl), hkx_a.symm⟩
    · rw [List.mem_singleton] at h
      cases h
      exact ⟨Or.inr (Or.inr rfl), (hkx_b hab).symm⟩
section LAWC
variable {c : Nat} {fil thr : Int32} {I : Nat → Nat → Int32} {L : Nat → Nat → Int64} {J : Nat → Nat → Int32} {f : Nat → Int64} {LL n z i : Nat} {xs : Nat → Int32}
theorem Rel_fr (R : Rel c I L J) : ∀ w, w < 27 → J 3 w ≤ 12 := fun w hw => by rw [← R.fr w hw]; exact Rel_sr R w hw
theorem Rel_mn (R : Rel c I L J) : ∀ w, w < 27 → J 4 w ≤ 40 := fun w hw => by
  obtain ⟨m, hm, e⟩ := R.mnb w hw
  rw [e]
  exact nI_le (b := 40) (by omega) (by decide)
theorem Rel_tB (R : Rel c I L J) : tB 40 (J 4) := fun w hw => by
  obtain ⟨m, hm, e⟩ := R.mnb w hw
  exact ⟨m, by omega, e⟩
theorem Rel_hv (R : Rel c I L J) : ∀ w, w < 27 → vp_in (3 + I 12 w) 16 := fun w hw => by
  have hc := R.hc
  rw [R.fr w hw]
  rcases R.frb w hw with (e | e | e) | ⟨g, hg, e⟩
  · rw [e]; exact vp_in_nI (n := 2) (by decide) (by decide)
  · rw [e]; exact vp_in_nI (n := 1) (by decide) (by decide)
  · rw [e]; exact vp_in_nI (n := 0) (by decide) (by decide)
  · rw [e, show (3 : Int32) = nI 3 from rfl, nI_add]; exact vp_in_nI (by omega) (by decide)
theorem Rel_rOk (R : Rel c I L J) : ∀ w, w < 27 → rOk (J 3 w) := fun w hw h1 h2 h3 => by
  have hc := R.hc
  rcases R.frb w hw with (e | e | e) | ⟨g, hg, e⟩
  · exact absurd e h1
  · exact absurd e h2
  · exact absurd e h3
  · rw [e]; exact vp_in_nI (by omega) (by decide)
theorem law_gate (R : Rel c I L J) (hi : i + 5 ≤ LL) (hLL : LL ≤ 2560) (hn : n + 1 ≤ 601024) (hz : z + 6 ≤ 7293034) (K : lawK LL xs (n + 1) (z + 6) i) : wB LL xs n z 116 (wls i) [] (lP (pic (nI c) fil I L) f (rp thr (nI c) J)) := by
  have hc := R.hc
  have hag := gate_agr (fil := fil) R (wx xs i 1) (wx xs i 2)
  rcases hA : aGate c fil I L (wx xs i 1) (wx xs i 2) with ⟨r, h2⟩
  have hag : gOn ((rGate c J (wx xs i 1) (wx xs i 2)).2.2.1) h2 ((rGate c J (wx xs i 1) (wx xs i 2)).2.2.2) ∧ AgI [(0, 1), (1, 2)] r ((rGate c J (wx xs i 1) (wx xs i 2)).2.1) ((rGate c J (wx xs i 1) (wx xs i 2)).1) := by rw [hA] at hag; exact hag
  obtain ⟨⟨fil', I', L', rfl, R'⟩, hk⟩ := hag
  obtain ⟨hr, hthr, hout⟩ := ag2 (by decide) hk
  refine mb_aload_n dW_116 rfl ?_
  refine mb_aload_n dW_117 rfl ?_
  refine mb_iload dW_118 rfl ?_
  refine mb_iconst (1) dW_120 (by decide) ?_
  refine mb_iadd dW_121 ?_
  rw [ix_1]
  refine mb_sld rfl dW_122 (vp_in_nI (by omega) (by omega)) ?_
  refine mb_aload_n dW_123 rfl ?_
  refine mb_iload dW_124 rfl ?_
  refine mb_iconst (2) dW_126 (by decide) ?_
  refine mb_iadd dW_127 ?_
  rw [ix_2]
  refine mb_sld rfl dW_128 (vp_in_nI (by omega) (by omega)) ?_
  refine mb_aload_n dW_129 rfl ?_
  refine mb_SH (R' := mRH) (n := 4) (hpc := pic (nI c) fil I L ++ [eo f]) (hpc' := pic (nI ((rGate c J (wx xs i 1) (wx xs i 2)).2.2.1)) fil' I' L' ++ [eo (hfo f r)]) (kx := hkx [(0, 1), (1, 2)] r) (hh := hhW_gate) (tb' := tbW_gate) (fun h => h ++ wRn (rp thr (nI c) J)) (fun q dT => (wRn (rp thr (nI c) J)).mapIdx (fun i x => (q (i + 68), mx_e q dT x))) [.ref 0, .int (wx xs i 1), .int (wx xs i 2), .ref 67] [] dW_130 rfl mT_G cwW_gate iniW (by decide +kernel) ⟨by decide +kernel, by decide +kernel⟩ (by decide +kernel) vW_gate (mT_2 (i := 16) rfl rfl) ⟨rfl, rfl, Nat.le_of_ble_eq_true rfl, Nat.le_of_ble_eq_true rfl⟩ rfl rfl (Nat.le_of_ble_eq_true rfl) (Nat.le_of_ble_eq_true rfl) (fun h hn q dT => wputH _ h (hn.trans (pic_len1 _ _ _ _ _)) q dT) rfl (by decide) (hh_gate hc hA hr (pic_len _ _ _ _)) ((pic_len1 _ _ _ _ _).trans (pic_len1 _ _ _ _ _).symm) ⟨hn, hz⟩ ?_
  refine mb_istore dW_133 (Nat.le_of_ble_eq_true rfl) rfl ?_
  refine mb_aload_n dW_135 rfl ?_
  refine mb_aload_n dW_136 rfl ?_
  refine mb_iload dW_137 rfl ?_
  refine mb_iconst (1) dW_139 (by decide) ?_
  refine mb_iadd dW_140 ?_
  rw [ix_1]
  refine mb_sld rfl dW_141 (vp_in_nI (by omega) (by omega)) ?_
  refine mb_aload_n dW_142 rfl ?_
  refine mb_iload dW_143 rfl ?_
  refine mb_iconst (2) dW_145 (by decide) ?_
  refine mb_iadd dW_146 ?_
  rw [ix_2]
  refine mb_sld rfl dW_147 (vp_in_nI (by omega) (by omega)) ?_
  refine mb_VL (R' := mR 1 21) (mc := 0) (ms := 0) (hpc := rp thr (nI c) J) (fun j => j + 68) (fun h => (pic (nI ((rGate c J (wx xs i 1) (wx xs i 2)).2.2.1)) fil' I' L' ++ [eo (hfo f r)]) ++ wRn h) (fun q dT => mx_w q dT (pic (nI ((rGate c J (wx xs i 1) (wx xs i 2)).2.2.1)) fil' I' L' ++ [eo (hfo f r)])) (fun _ _ => []) [.int (wx xs i 1), .int (wx xs i 2)] [] dW_148 rfl rfl mT_G jM_gate_ok jM_gate_v (mT_4 (i := 16) rfl rfl) ⟨rfl, rfl, Nat.le_of_ble_eq_true rfl, Nat.le_of_ble_eq_true rfl⟩ rfl rfl (fun _ _ => rfl) (Nat.le_of_ble_eq_true rfl) (Nat.le_of_ble_eq_true rfl) rfl rfl rfl (fun h _ q dT => wputM _ (pic_len1 _ _ _ _ _) h q dT) (cM_gate (x := (wx xs i 1)) (y := (wx xs i 2)) (Q := fun r h => r = .inl (some (.int (rGate c J (wx xs i 1) (wx xs i 2)).1)) ∧ h = rp ((rGate c J (wx xs i 1) (wx xs i 2)).2.1) (nI ((rGate c J (wx xs i 1) (wx xs i 2)).2.2.1)) ((rGate c J (wx xs i 1) (wx xs i 2)).2.2.2)) hc ⟨rfl, rfl⟩) (fun Y h q => by cases q.1) (fun v h q => by obtain ⟨e1, rfl⟩ := q; cases e1; exact ⟨(rp_len _ _ _).trans (rp_len _ _ _).symm, Or.inr ⟨_, rfl⟩⟩) ⟨hn, hz⟩ (fun v h q => ?_)
  obtain ⟨e1, rfl⟩ := q
  cases e1
  refine mb_istore dW_151 (Nat.le_of_ble_eq_true rfl) rfl ?_
  refine mb_aload_n dW_153 rfl ?_
  refine mb_VL (R' := mR 0 0) (mc := 0) (ms := 0) (hpc := rp ((rGate c J (wx xs i 1) (wx xs i 2)).2.1) (nI ((rGate c J (wx xs i 1) (wx xs i 2)).2.2.1)) ((rGate c J (wx xs i 1) (wx xs i 2)).2.2.2)) (fun j => j + 68) (fun h => (pic (nI ((rGate c J (wx xs i 1) (wx xs i 2)).2.2.1)) fil' I' L' ++ [eo (hfo f r)]) ++ wRn h) (fun q dT => mx_w q dT (pic (nI ((rGate c J (wx xs i 1) (wx xs i 2)).2.2.1)) fil' I' L' ++ [eo (hfo f r)])) (fun _ _ => []) [] [] dW_154 rfl rfl mT_G jM_thrown_ok jM_thrown_v (mT_4 (i := 12) rfl rfl) ⟨rfl, rfl, Nat.le_of_ble_eq_true rfl, Nat.le_of_ble_eq_true rfl⟩ rfl rfl (fun _ _ => rfl) (Nat.le_of_ble_eq_true rfl) (Nat.le_of_ble_eq_true rfl) rfl rfl rfl (fun h _ q dT => wputM _ (pic_len1 _ _ _ _ _) h q dT) (cM_thrown (Q := fun r h => r = .inl (some (.int ((rGate c J (wx xs i 1) (wx xs i 2)).2.1))) ∧ h = rp ((rGate c J (wx xs i 1) (wx xs i 2)).2.1) (nI ((rGate c J (wx xs i 1) (wx xs i 2)).2.2.1)) ((rGate c J (wx xs i 1) (wx xs i 2)).2.2.2)) ⟨rfl, rfl⟩) (fun Y h q => by cases q.1) (fun v h q => by obtain ⟨e1, rfl⟩ := q; cases e1; exact ⟨(rp_len _ _ _).trans (rp_len _ _ _).symm, Or.inr ⟨_, rfl⟩⟩) ⟨hn, hz⟩ (fun v h q => ?_)
  obtain ⟨e1, rfl⟩ := q
  cases e1
  refine mb_iload dW_157 rfl ?_
  refine mb_icmp_eq 164 dW_159 rfl (fun _ => ?_) (fun h9 => absurd hthr h9)
  refine mb_iload dW_164 rfl ?_
  have hend : wB LL xs (n + 1) (z + 6) 181 [.ref 1000, .ref 0, .ref 68, .ref 67, .int (nI i), .int (hkx [(0, 1), (1, 2)] r), .int ((rGate c J (wx xs i 1) (wx xs i 2)).1)] [] (lP (pic (nI ((rGate c J (wx xs i 1) (wx xs i 2)).2.2.1)) fil' I' L') (hfo f r) (rp ((rGate c J (wx xs i 1) (wx xs i 2)).2.1) (nI ((rGate c J (wx xs i 1) (wx xs i 2)).2.2.1)) ((rGate c J (wx xs i 1) (wx xs i 2)).2.2.2))) := by
    refine mb_goto 973 dW_181 rfl ?_
    refine mb_drop 5 ?_
    refine mb_drop 6 ?_
    exact K _ _ _ _ _ _ _ R'
  refine mb_if_ne 181 dW_166 rfl (fun _ => hend) (fun h0 => ?_)
  refine mb_aload_n dW_169 rfl ?_
  refine mb_iconst (0) dW_170 (by decide) ?_
  refine mb_lald dW_171 (b := 67) (n := 1) (f := (hfo f r)) rfl (vp_in_nI (n := 0) (by decide) (by decide)) ?_
  refine mb_iload dW_172 rfl ?_
  refine mb_i2l dW_174 rfl ?_
  refine mb_lcmp dW_175 ?_
  exact mb_if_eq 181 dW_176 rfl (fun _ => hend) (fun h9 => absurd (lcmp_0 (hout h0 f)) h9)
theorem law_wire (R : Rel c I L J) (hi : i + 5 ≤ LL) (hLL : LL ≤ 2560) (hn : n + 1 ≤ 601024) (hz : z + 6 ≤ 7293034) (K : lawK LL xs (n + 1) (z + 6) i) : wB LL xs n z 184 (wls i) [] (lP (pic (nI c) fil I L) f (rp thr (nI c) J)) := by
  have hc := R.hc
  have hag := wire_agr (fil := fil) R (wx xs i 1) (wx xs i 2) (wx xs i 3) (wx xs i 4)
  rcases hA : aWire c fil I L (wx xs i 1) (wx xs i 2) (wx xs i 3) (wx xs i 4) with ⟨r, h2⟩
  have hag : gOn c h2 ((rWire c J (wx xs i 1) (wx xs i 2) (wx xs i 3) (wx xs i 4)).2) ∧ AgV [(2, 1), (0, 2)] r ((rWire c J (wx xs i 1) (wx xs i 2) (wx xs i 3) (wx xs i 4)).1) := by rw [hA] at hag; exact hag
  obtain ⟨⟨fil', I', L', rfl, R'⟩, hk⟩ := hag
  obtain ⟨hr, hthr⟩ := av2 (by decide) hk
  refine mb_aload_n dW_184 rfl ?_
  refine mb_aload_n dW_185 rfl ?_
  refine mb_iload dW_186 rfl ?_
  refine mb_iconst (1) dW_188 (by decide) ?_
  refine mb_iadd dW_189 ?_
  rw [ix_1]
  refine mb_sld rfl dW_190 (vp_in_nI (by omega) (by omega)) ?_
  refine mb_aload_n dW_191 rfl ?_
  refine mb_iload dW_192 rfl ?_
  refine mb_iconst (2) dW_194 (by decide) ?_
  refine mb_iadd dW_195 ?_
  rw [ix_2]
  refine mb_sld rfl dW_196 (vp_in_nI (by omega) (by omega)) ?_
  refine mb_aload_n dW_197 rfl ?_
  refine mb_iload dW_198 rfl ?_
  refine mb_iconst (3) dW_200 (by decide) ?_
  refine mb_iadd dW_201 ?_
  rw [ix_3]
  refine mb_sld rfl dW_202 (vp_in_nI (by omega) (by omega)) ?_
  refine mb_aload_n dW_203 rfl ?_
  refine mb_iload dW_204 rfl ?_
  refine mb_iconst (4) dW_206 (by decide) ?_
  refine mb_iadd dW_207 ?_
  rw [ix_4]
  refine mb_sld rfl dW_208 (vp_in_nI (by omega) (by omega)) ?_
  refine mb_SH (R' := mRH) (n := 5) (hpc := pic (nI c) fil I L ++ [eo f]) (hpc' := pic (nI c) fil' I' L' ++ [eo f]) (kx := hkx [(2, 1), (0, 2)] r) (hh := hhW_wire) (tb' := tbW_wire) (fun h => h ++ wRn (rp thr (nI c) J)) (fun q dT => (wRn (rp thr (nI c) J)).mapIdx (fun i x => (q (i + 68), mx_e q dT x))) [.ref 0, .int (wx xs i 1), .int (wx xs i 2), .int (wx xs i 3), .int (wx xs i 4)] [] dW_209 rfl mT_G cwW_wire iniW (by decide +kernel) ⟨by decide +kernel, by decide +kernel⟩ (by decide +kernel) vW_wire (mT_2 (i := 108) rfl rfl) ⟨rfl, rfl, Nat.le_of_ble_eq_true rfl, Nat.le_of_ble_eq_true rfl⟩ rfl rfl (Nat.le_of_ble_eq_true rfl) (Nat.le_of_ble_eq_true rfl) (fun h hn q dT => wputH _ h (hn.trans (pic_len1 _ _ _ _ _)) q dT) rfl (by decide) (hh_wire hc hA hr (pic_len _ _ _ _)) ((pic_len1 _ _ _ _ _).trans (pic_len1 _ _ _ _ _).symm) ⟨hn, hz⟩ ?_
  refine mb_istore dW_212 (Nat.le_of_ble_eq_true rfl) rfl ?_
  refine mb_aload_n dW_214 rfl ?_
  refine mb_aload_n dW_215 rfl ?_
  refine mb_iload dW_216 rfl ?_
  refine mb_iconst (1) dW_218 (by decide) ?_
  refine mb_iadd dW_219 ?_
  rw [ix_1]
  refine mb_sld rfl dW_220 (vp_in_nI (by omega) (by omega)) ?_
  refine mb_aload_n dW_221 rfl ?_
  refine mb_iload dW_222 rfl ?_
  refine mb_iconst (2) dW_224 (by decide) ?_
  refine mb_iadd dW_225 ?_
  rw [ix_2]
  refine mb_sld rfl dW_226 (vp_in_nI (by omega) (by omega)) ?_
  refine mb_aload_n dW_227 rfl ?_
  refine mb_iload dW_228 rfl ?_
  refine mb_iconst (3) dW_230 (by decide) ?_
  refine mb_iadd dW_231 ?_
  rw [ix_3]
  refine mb_sld rfl dW_232 (vp_in_nI (by omega) (by omega)) ?_
  refine mb_aload_n dW_233 rfl ?_
  refine mb_iload dW_234 rfl ?_
  refine mb_iconst (4) dW_236 (by decide) ?_
  refine mb_iadd dW_237 ?_
  rw [ix_4]
  refine mb_sld rfl dW_238 (vp_in_nI (by omega) (by omega)) ?_
  refine mb_VL (R' := mR 2 43) (mc := 0) (ms := 0) (hpc := rp thr (nI c) J) (fun j => j + 68) (fun h => (pic (nI c) fil' I' L' ++ [eo f]) ++ wRn h) (fun q dT => mx_w q dT (pic (nI c) fil' I' L' ++ [eo f])) (fun _ _ => []) [.int (wx xs i 1), .int (wx xs i 2), .int (wx xs i 3), .int (wx xs i 4)] [] dW_239 rfl rfl mT_G jM_wire_ok jM_wire_v (mT_4 (i := 24) rfl rfl) ⟨rfl, rfl, Nat.le_of_ble_eq_true rfl, Nat.le_of_ble_eq_true rfl⟩ rfl rfl (fun _ _ => rfl) (Nat.le_of_ble_eq_true rfl) (Nat.le_of_ble_eq_true rfl) rfl rfl rfl (fun h _ q dT => wputM _ (pic_len1 _ _ _ _ _) h q dT) (cM_wire (x := (wx xs i 1)) (s := (wx xs i 2)) (y := (wx xs i 3)) (r := (wx xs i 4)) (Q := fun r h => r = .inl (none) ∧ h = rp ((rWire c J (wx xs i 1) (wx xs i 2) (wx xs i 3) (wx xs i 4)).1) (nI c) ((rWire c J (wx xs i 1) (wx xs i 2) (wx xs i 3) (wx xs i 4)).2)) hc ⟨rfl, rfl⟩) (fun Y h q => by cases q.1) (fun v h q => by obtain ⟨e1, rfl⟩ := q; cases e1; exact ⟨(rp_len _ _ _).trans (rp_len _ _ _).symm, Or.inl rfl⟩) ⟨hn, hz⟩ (fun v h q => ?_)
  obtain ⟨e1, rfl⟩ := q
  cases e1
  refine mb_aload_n dW_242 rfl ?_
  refine mb_VL (R' := mR 0 0) (mc := 0) (ms := 0) (hpc := rp ((rWire c J (wx xs i 1) (wx xs i 2) (wx xs i 3) (wx xs i 4)).1) (nI c) ((rWire c J (wx xs i 1) (wx xs i 2) (wx xs i 3) (wx xs i 4)).2)) (fun j => j + 68) (fun h => (pic (nI c) fil' I' L' ++ [eo f]) ++ wRn h) (fun q dT => mx_w q dT (pic (nI c) fil' I' L' ++ [eo f])) (fun _ _ => []) [] [] dW_243 rfl rfl mT_G jM_thrown_ok jM_thrown_v (mT_4 (i := 12) rfl rfl) ⟨rfl, rfl, Nat.le_of_ble_eq_true rfl, Nat.le_of_ble_eq_true rfl⟩ rfl rfl (fun _ _ => rfl) (Nat.le_of_ble_eq_true rfl) (Nat.le_of_ble_eq_true rfl) rfl rfl rfl (fun h _ q dT => wputM _ (pic_len1 _ _ _ _ _) h q dT) (cM_thrown (Q := fun r h => r = .inl (some (.int ((rWire c J (wx xs i 1) (wx xs i 2) (wx xs i 3) (wx xs i 4)).1))) ∧ h = rp ((rWire c J (wx xs i 1) (wx xs i 2) (wx xs i 3) (wx xs i 4)).1) (nI c) ((rWire c J (wx xs i 1) (wx xs i 2) (wx xs i 3) (wx xs i 4)).2)) ⟨rfl, rfl⟩) (fun Y h q => by cases q.1) (fun v h q => by obtain ⟨e1, rfl⟩ := q; cases e1; exact ⟨(rp_len _ _ _).trans (rp_len _ _ _).symm, Or.inr ⟨_, rfl⟩⟩) ⟨hn, hz⟩ (fun v h q => ?_)
  obtain ⟨e1, rfl⟩ := q
  cases e1
  refine mb_iload dW_246 rfl ?_
  refine mb_icmp_eq 253 dW_248 rfl (fun _ => ?_) (fun h9 => absurd hthr h9)
  refine mb_goto 973 dW_253 rfl ?_
  refine mb_drop 5 ?_
  exact K _ _ _ _ _ _ _ R'
theorem law_hold (R : Rel c I L J) (hi : i + 5 ≤ LL) (hLL : LL ≤ 2560) (hn : n + 1 ≤ 601024) (hz : z + 6 ≤ 7293034) (K : lawK LL xs (n + 1) (z + 6) i) : wB LL xs n z 256 (wls i) [] (lP (pic (nI c) fil I L) f (rp thr (nI c) J)) := by
  have hc := R.hc
  have hag := hold_agr (fil := fil) R (wx xs i 1) (wx xs i 2) (wx xs i 3) (wx xs i 4)
  rcases hA : aHold c fil I L (wx xs i 1) (wx xs i 2) (wx xs i 3) (wx xs i 4) with ⟨r, h2⟩
  have hag : gOn c h2 ((rHold c J (wx xs i 1) (wx xs i 2) (wx xs i 3) (wx xs i 4)).2) ∧ AgV [(2, 1), (0, 2)] r ((rHold c J (wx xs i 1) (wx xs i 2) (wx xs i 3) (wx xs i 4)).1) := by rw [hA] at hag; exact hag
  obtain ⟨⟨fil', I', L', rfl, R'⟩, hk⟩ := hag
  obtain ⟨hr, hthr⟩ := av2 (by decide) hk
  refine mb_aload_n dW_256 rfl ?_
  refine mb_aload_n dW_257 rfl ?_
  refine mb_iload dW_258 rfl ?_
  refine mb_iconst (1) dW_260 (by decide) ?_
  refine mb_iadd dW_261 ?_
  rw [ix_1]
  refine mb_sld rfl dW_262 (vp_in_nI (by omega) (by omega)) ?_
  refine mb_aload_n dW_263 rfl ?_
  refine mb_iload dW_264 rfl ?_
  refine mb_iconst (2) dW_266 (by decide) ?_
  refine mb_iadd dW_267 ?_
  rw [ix_2]
  refine mb_sld rfl dW_268 (vp_in_nI (by omega) (by omega)) ?_
  refine mb_aload_n dW_269 rfl ?_
  refine mb_iload dW_270 rfl ?_
  refine mb_iconst (3) dW_272 (by decide) ?_
  refine mb_iadd dW_273 ?_
  rw [ix_3]
  refine mb_sld rfl dW_274 (vp_in_nI (by omega) (by omega)) ?_
  refine mb_aload_n dW_275 rfl ?_
  refine mb_iload dW_276 rfl ?_
  refine mb_iconst (4) dW_278 (by decide) ?_
  refine mb_iadd dW_279 ?_
  rw [ix_4]
  refine mb_sld rfl dW_280 (vp_in_nI (by omega) (by omega)) ?_
  refine mb_SH (R' := mRH) (n := 5) (hpc := pic (nI c) fil I L ++ [eo f]) (hpc' := pic (nI c) fil' I' L' ++ [eo f]) (kx := hkx [(2, 1), (0, 2)] r) (hh := hhW_hold) (tb' := tbW_hold) (fun h => h ++ wRn (rp thr (nI c) J)) (fun q dT => (wRn (rp thr (nI c) J)).mapIdx (fun i x => (q (i + 68), mx_e q dT x))) [.ref 0, .int (wx xs i 1), .int (wx xs i 2), .int (wx xs i 3), .int (wx xs i 4)] [] dW_281 rfl mT_G cwW_hold iniW (by decide +kernel) ⟨by decide +kernel, by decide +kernel⟩ (by decide +kernel) vW_hold (mT_2 (i := 160) rfl rfl) ⟨rfl, rfl, Nat.le_of_ble_eq_true rfl, Nat.le_of_ble_eq_true rfl⟩ rfl rfl (Nat.le_of_ble_eq_true rfl) (Nat.le_of_ble_eq_true rfl) (fun h hn q dT => wputH _ h (hn.trans (pic_len1 _ _ _ _ _)) q dT) rfl (by decide) (hh_hold hc hA hr (pic_len _ _ _ _)) ((pic_len1 _ _ _ _ _).trans (pic_len1 _ _ _ _ _).symm) ⟨hn, hz⟩ ?_
  refine mb_istore dW_284 (Nat.le_of_ble_eq_true rfl) rfl ?_
  refine mb_aload_n dW_286 rfl ?_
  refine mb_aload_n dW_287 rfl ?_
  refine mb_iload dW_288 rfl ?_
  refine mb_iconst (1) dW_290 (by decide) ?_
  refine mb_iadd dW_291 ?_
  rw [ix_1]
  refine mb_sld rfl dW_292 (vp_in_nI (by omega) (by omega)) ?_
  refine mb_aload_n dW_293 rfl ?_
  refine mb_iload dW_294 rfl ?_
  refine mb_iconst (2) dW_296 (by decide) ?_
  refine mb_iadd dW_297 ?_
  rw [ix_2]
  refine mb_sld rfl dW_298 (vp_in_nI (by omega) (by omega)) ?_
  refine mb_aload_n dW_299 rfl ?_
  refine mb_iload dW_300 rfl ?_
  refine mb_iconst (3) dW_302 (by decide) ?_
  refine mb_iadd dW_303 ?_
  rw [ix_3]
  refine mb_sld rfl dW_304 (vp_in_nI (by omega) (by omega)) ?_
  refine mb_aload_n dW_305 rfl ?_
  refine mb_iload dW_306 rfl ?_
  refine mb_iconst (4) dW_308 (by decide) ?_
  refine mb_iadd dW_309 ?_
  rw [ix_4]
  refine mb_sld rfl dW_310 (vp_in_nI (by omega) (by omega)) ?_
  refine mb_VL (R' := mR 2 43) (mc := 0) (ms := 0) (hpc := rp thr (nI c) J) (fun j => j + 68) (fun h => (pic (nI c) fil' I' L' ++ [eo f]) ++ wRn h) (fun q dT => mx_w q dT (pic (nI c) fil' I' L' ++ [eo f])) (fun _ _ => []) [.int (wx xs i 1), .int (wx xs i 2), .int (wx xs i 3), .int (wx xs i 4)] [] dW_311 rfl rfl mT_G jM_hold_ok jM_hold_v (mT_4 (i := 43) rfl rfl) ⟨rfl, rfl, Nat.le_of_ble_eq_true rfl, Nat.le_of_ble_eq_true rfl⟩ rfl rfl (fun _ _ => rfl) (Nat.le_of_ble_eq_true rfl) (Nat.le_of_ble_eq_true rfl) rfl rfl rfl (fun h _ q dT => wputM _ (pic_len1 _ _ _ _ _) h q dT) (cM_hold (x := (wx xs i 1)) (y := (wx xs i 2)) (r := (wx xs i 3)) (v := (wx xs i 4)) (Q := fun r h => r = .inl (none) ∧ h = rp ((rHold c J (wx xs i 1) (wx xs i 2) (wx xs i 3) (wx xs i 4)).1) (nI c) ((rHold c J (wx xs i 1) (wx xs i 2) (wx xs i 3) (wx xs i 4)).2)) hc (Rel_mn R) ⟨rfl, rfl⟩) (fun Y h q => by cases q.1) (fun v h q => by obtain ⟨e1, rfl⟩ := q; cases e1; exact ⟨(rp_len _ _ _).trans (rp_len _ _ _).symm, Or.inl rfl⟩) ⟨hn, hz⟩ (fun v h q => ?_)
  obtain ⟨e1, rfl⟩ := q
  cases e1
  refine mb_aload_n dW_314 rfl ?_
  refine mb_VL (R' := mR 0 0) (mc := 0) (ms := 0) (hpc := rp ((rHold c J (wx xs i 1) (wx xs i 2) (wx xs i 3) (wx xs i 4)).1) (nI c) ((rHold c J (wx xs i 1) (wx xs i 2) (wx xs i 3) (wx xs i 4)).2)) (fun j => j + 68) (fun h => (pic (nI c) fil' I' L' ++ [eo f]) ++ wRn h) (fun q dT => mx_w q dT (pic (nI c) fil' I' L' ++ [eo f])) (fun _ _ => []) [] [] dW_315 rfl rfl mT_G jM_thrown_ok jM_thrown_v (mT_4 (i := 12) rfl rfl) ⟨rfl, rfl, Nat.le_of_ble_eq_true rfl, Nat.le_of_ble_eq_true rfl⟩ rfl rfl (fun _ _ => rfl) (Nat.le_of_ble_eq_true rfl) (Nat.le_of_ble_eq_true rfl) rfl rfl rfl (fun h _ q dT => wputM _ (pic_len1 _ _ _ _ _) h q dT) (cM_thrown (Q := fun r h => r = .inl (some (.int ((rHold c J (wx xs i 1) (wx xs i 2) (wx xs i 3) (wx xs i 4)).1))) ∧ h = rp ((rHold c J (wx xs i 1) (wx xs i 2) (wx xs i 3) (wx xs i 4)).1) (nI c) ((rHold c J (wx xs i 1) (wx xs i 2) (wx xs i 3) (wx xs i 4)).2)) ⟨rfl, rfl⟩) (fun Y h q => by cases q.1) (fun v h q => by obtain ⟨e1, rfl⟩ := q; cases e1; exact ⟨(rp_len _ _ _).trans (rp_len _ _ _).symm, Or.inr ⟨_, rfl⟩⟩) ⟨hn, hz⟩ (fun v h q => ?_)
  obtain ⟨e1, rfl⟩ := q
  cases e1
  refine mb_iload dW_318 rfl ?_
  refine mb_icmp_eq 325 dW_320 rfl (fun _ => ?_) (fun h9 => absurd hthr h9)
  refine mb_goto 973 dW_325 rfl ?_
  refine mb_drop 5 ?_
  exact K _ _ _ _ _ _ _ R'
theorem law_held (R : Rel c I L J) (hi : i + 5 ≤ LL) (hLL : LL ≤ 2560) (hn : n + 1 ≤ 601024) (hz : z + 6 ≤ 7293034) (K : lawK LL xs (n + 1) (z + 6) i) : wB LL xs n z 328 (wls i) [] (lP (pic (nI c) fil I L) f (rp thr (nI c) J)) := by
  have hc := R.hc
  have hag := held_agr (fil := fil) R (wx xs i 1) (wx xs i 2) (wx xs i 3)
  rcases hA : aHeld c fil I L (wx xs i 1) (wx xs i 2) (wx xs i 3) with ⟨r, h2⟩
  have hag : gOn c h2 (J) ∧ AgI [(2, 1)] r ((rHeld c J (wx xs i 1) (wx xs i 2) (wx xs i 3)).2) ((rHeld c J (wx xs i 1) (wx xs i 2) (wx xs i 3)).1) := by rw [hA] at hag; exact hag
  obtain ⟨⟨fil', I', L', rfl, R'⟩, hk⟩ := hag
  obtain ⟨hr, hthr, hout⟩ := ag1 hk
  refine mb_aload_n dW_328 rfl ?_
  refine mb_aload_n dW_329 rfl ?_
  refine mb_iload dW_330 rfl ?_
  refine mb_iconst (1) dW_332 (by decide) ?_
  refine mb_iadd dW_333 ?_
  rw [ix_1]
  refine mb_sld rfl dW_334 (vp_in_nI (by omega) (by omega)) ?_
  refine mb_aload_n dW_335 rfl ?_
  refine mb_iload dW_336 rfl ?_
  refine mb_iconst (2) dW_338 (by decide) ?_
  refine mb_iadd dW_339 ?_
  rw [ix_2]
  refine mb_sld rfl dW_340 (vp_in_nI (by omega) (by omega)) ?_
  refine mb_aload_n dW_341 rfl ?_
  refine mb_iload dW_342 rfl ?_
  refine mb_iconst (3) dW_344 (by decide) ?_
  refine mb_iadd dW_345 ?_
  rw [ix_3]
  refine mb_sld rfl dW_346 (vp_in_nI (by omega) (by omega)) ?_
  refine mb_aload_n dW_347 rfl ?_
  refine mb_SH (R' := mRH) (n := 5) (hpc := pic (nI c) fil I L ++ [eo f]) (hpc' := pic (nI c) fil' I' L' ++ [eo (hfo f r)]) (kx := hkx [(2, 1)] r) (hh := hhW_held) (tb' := tbW_held) (fun h => h ++ wRn (rp thr (nI c) J)) (fun q dT => (wRn (rp thr (nI c) J)).mapIdx (fun i x => (q (i + 68), mx_e q dT x))) [.ref 0, .int (wx xs i 1), .int (wx xs i 2), .int (wx xs i 3), .ref 67] [] dW_348 rfl mT_G cwW_held iniW (by decide +kernel) ⟨by decide +kernel, by decide +kernel⟩ (by decide +kernel) vW_held (mT_2 (i := 180) rfl rfl) ⟨rfl, rfl, Nat.le_of_ble_eq_true rfl, Nat.le_of_ble_eq_true rfl⟩ rfl rfl (Nat.le_of_ble_eq_true rfl) (Nat.le_of_ble_eq_true rfl) (fun h hn q dT => wputH _ h (hn.trans (pic_len1 _ _ _ _ _)) q dT) rfl (by decide) (hh_held hc hA hr (pic_len _ _ _ _)) ((pic_len1 _ _ _ _ _).trans (pic_len1 _ _ _ _ _).symm) ⟨hn, hz⟩ ?_
  refine mb_istore dW_351 (Nat.le_of_ble_eq_true rfl) rfl ?_
  refine mb_aload_n dW_353 rfl ?_
  refine mb_aload_n dW_354 rfl ?_
  refine mb_iload dW_355 rfl ?_
  refine mb_iconst (1) dW_357 (by decide) ?_
  refine mb_iadd dW_358 ?_
  rw [ix_1]
  refine mb_sld rfl dW_359 (vp_in_nI (by omega) (by omega)) ?_
  refine mb_aload_n dW_360 rfl ?_
  refine mb_iload dW_361 rfl ?_
  refine mb_iconst (2) dW_363 (by decide) ?_
  refine mb_iadd dW_364 ?_
  rw [ix_2]
  refine mb_sld rfl dW_365 (vp_in_nI (by omega) (by omega)) ?_
  refine mb_aload_n dW_366 rfl ?_
  refine mb_iload dW_367 rfl ?_
  refine mb_iconst (3) dW_369 (by decide) ?_
  refine mb_iadd dW_370 ?_
  rw [ix_3]
  refine mb_sld rfl dW_371 (vp_in_nI (by omega) (by omega)) ?_
  refine mb_VL (R' := mR 2 43) (mc := 0) (ms := 0) (hpc := rp thr (nI c) J) (fun j => j + 68) (fun h => (pic (nI c) fil' I' L' ++ [eo (hfo f r)]) ++ wRn h) (fun q dT => mx_w q dT (pic (nI c) fil' I' L' ++ [eo (hfo f r)])) (fun _ _ => []) [.int (wx xs i 1), .int (wx xs i 2), .int (wx xs i 3)] [] dW_372 rfl rfl mT_G jM_held_ok jM_held_v (mT_4 (i := 55) rfl rfl) ⟨rfl, rfl, Nat.le_of_ble_eq_true rfl, Nat.le_of_ble_eq_true rfl⟩ rfl rfl (fun _ _ => rfl) (Nat.le_of_ble_eq_true rfl) (Nat.le_of_ble_eq_true rfl) rfl rfl rfl (fun h _ q dT => wputM _ (pic_len1 _ _ _ _ _) h q dT) (cM_held (x := (wx xs i 1)) (y := (wx xs i 2)) (r := (wx xs i 3)) (Q := fun r h => r = .inl (some (.int (rHeld c J (wx xs i 1) (wx xs i 2) (wx xs i 3)).1)) ∧ h = rp ((rHeld c J (wx xs i 1) (wx xs i 2) (wx xs i 3)).2) (nI c) (J)) hc (Rel_mn R) ⟨rfl, rfl⟩) (fun Y h q => by cases q.1) (fun v h q => by obtain ⟨e1, rfl⟩ := q; cases e1; exact ⟨(rp_len _ _ _).trans (rp_len _ _ _).symm, Or.inr ⟨_, rfl⟩⟩) ⟨hn, hz⟩ (fun v h q => ?_)
  obtain ⟨e1, rfl⟩ := q
  cases e1
  refine mb_istore dW_375 (Nat.le_of_ble_eq_true rfl) rfl ?_
  refine mb_aload_n dW_377 rfl ?_
  refine mb_VL (R' := mR 0 0) (mc := 0) (ms := 0) (hpc := rp ((rHeld c J (wx xs i 1) (wx xs i 2) (wx xs i 3)).2) (nI c) (J)) (fun j => j + 68) (fun h => (pic (nI c) fil' I' L' ++ [eo (hfo f r)]) ++ wRn h) (fun q dT => mx_w q dT (pic (nI c) fil' I' L' ++ [eo (hfo f r)])) (fun _ _ => []) [] [] dW_378 rfl rfl mT_G jM_thrown_ok jM_thrown_v (mT_4 (i := 12) rfl rfl) ⟨rfl, rfl, Nat.le_of_ble_eq_true rfl, Nat.le_of_ble_eq_true rfl⟩ rfl rfl (fun _ _ => rfl) (Nat.le_of_ble_eq_true rfl) (Nat.le_of_ble_eq_true rfl) rfl rfl rfl (fun h _ q dT => wputM _ (pic_len1 _ _ _ _ _) h q dT) (cM_thrown (Q := fun r h => r = .inl (some (.int ((rHeld c J (wx xs i 1) (wx xs i 2) (wx xs i 3)).2))) ∧ h = rp ((rHeld c J (wx xs i 1) (wx xs i 2) (wx xs i 3)).2) (nI c) (J)) ⟨rfl, rfl⟩) (fun Y h q => by cases q.1) (fun v h q => by obtain ⟨e1, rfl⟩ := q; cases e1; exact ⟨(rp_len _ _ _).trans (rp_len _ _ _).symm, Or.inr ⟨_, rfl⟩⟩) ⟨hn, hz⟩ (fun v h q => ?_)
  obtain ⟨e1, rfl⟩ := q
  cases e1
  refine mb_iload dW_381 rfl ?_
  refine mb_icmp_eq 388 dW_383 rfl (fun _ => ?_) (fun h9 => absurd hthr h9)
  refine mb_iload dW_388 rfl ?_
  have hend : wB LL xs (n + 1) (z + 6) 405 [.ref 1000, .ref 0, .ref 68, .ref 67, .int (nI i), .int (hkx [(2, 1)] r), .int ((rHeld c J (wx xs i 1) (wx xs i 2) (wx xs i 3)).1)] [] (lP (pic (nI c) fil' I' L') (hfo f r) (rp ((rHeld c J (wx xs i 1) (wx xs i 2) (wx xs i 3)).2) (nI c) (J))) := by
    refine mb_goto 973 dW_405 rfl ?_
    refine mb_drop 5 ?_
    refine mb_drop 6 ?_
    exact K _ _ _ _ _ _ _ R'
  refine mb_if_ne 405 dW_390 rfl (fun _ => hend) (fun h0 => ?_)
  refine mb_aload_n dW_393 rfl ?_
  refine mb_iconst (0) dW_394 (by decide) ?_
  refine mb_lald dW_395 (b := 67) (n := 1) (f := (hfo f r)) rfl (vp_in_nI (n := 0) (by decide) (by decide)) ?_
  refine mb_iload dW_396 rfl ?_
  refine mb_i2l dW_398 rfl ?_
  refine mb_lcmp dW_399 ?_
  exact mb_if_eq 405 dW_400 rfl (fun _ => hend) (fun h9 => absurd (lcmp_0 (hout h0 f)) h9)
theorem law_registers (R : Rel c I L J) (hi : i + 5 ≤ LL) (hLL : LL ≤ 2560) (hn : n + 1 ≤ 601024) (hz : z + 6 ≤ 7293034) (K : lawK LL xs (n + 1) (z + 6) i) : wB LL xs n z 408 (wls i) [] (lP (pic (nI c) fil I L) f (rp thr (nI c) J)) := by
  have hc := R.hc
  have hag := regs_agr (fil := fil) R (wx xs i 1) (wx xs i 2)
  rcases hA : aRegs c fil I L (wx xs i 1) (wx xs i 2) with ⟨r, h2⟩
  have hag : gOn c h2 (J) ∧ AgI [(2, 1)] r ((rRegs c J (wx xs i 1) (wx xs i 2)).2) ((rRegs c J (wx xs i 1) (wx xs i 2)).1) := by rw [hA] at hag; exact hag
  obtain ⟨⟨fil', I', L', rfl, R'⟩, hk⟩ := hag
  obtain ⟨hr, hthr, hout⟩ := ag1 hk
  refine mb_aload_n dW_408 rfl ?_
  refine mb_aload_n dW_409 rfl ?_
  refine mb_iload dW_410 rfl ?_
  refine mb_iconst (1) dW_412 (by decide) ?_
  refine mb_iadd dW_413 ?_
  rw [ix_1]
  refine mb_sld rfl dW_414 (vp_in_nI (by omega) (by omega)) ?_
  refine mb_aload_n dW_415 rfl ?_
  refine mb_iload dW_416 rfl ?_
  refine mb_iconst (2) dW_418 (by decide) ?_
  refine mb_iadd dW_419 ?_
  rw [ix_2]
  refine mb_sld rfl dW_420 (vp_in_nI (by omega) (by omega)) ?_
  refine mb_aload_n dW_421 rfl ?_
  refine mb_SH (R' := mRH) (n := 4) (hpc := pic (nI c) fil I L ++ [eo f]) (hpc' := pic (nI c) fil' I' L' ++ [eo (hfo f r)]) (kx := hkx [(2, 1)] r) (hh := hhW_registers) (tb' := tbW_registers) (fun h => h ++ wRn (rp thr (nI c) J)) (fun q dT => (wRn (rp thr (nI c) J)).mapIdx (fun i x => (q (i + 68), mx_e q dT x))) [.ref 0, .int (wx xs i 1), .int (wx xs i 2), .ref 67] [] dW_422 rfl mT_G cwW_registers iniW (by decide +kernel) ⟨by decide +kernel, by decide +kernel⟩ (by decide +kernel) vW_registers (mT_2 (i := 191) rfl rfl) ⟨rfl, rfl, Nat.le_of_ble_eq_true rfl, Nat.le_of_ble_eq_true rfl⟩ rfl rfl (Nat.le_of_ble_eq_true rfl) (Nat.le_of_ble_eq_true rfl) (fun h hn q dT => wputH _ h (hn.trans (pic_len1 _ _ _ _ _)) q dT) rfl (by decide) (hh_registers hc hA hr (pic_len _ _ _ _)) ((pic_len1 _ _ _ _ _).trans (pic_len1 _ _ _ _ _).symm) ⟨hn, hz⟩ ?_
  refine mb_istore dW_425 (Nat.le_of_ble_eq_true rfl) rfl ?_
  refine mb_aload_n dW_427 rfl ?_
  refine mb_aload_n dW_428 rfl ?_
  refine mb_iload dW_429 rfl ?_
  refine mb_iconst (1) dW_431 (by decide) ?_
  refine mb_iadd dW_432 ?_
  rw [ix_1]
  refine mb_sld rfl dW_433 (vp_in_nI (by omega) (by omega)) ?_
  refine mb_aload_n dW_434 rfl ?_
  refine mb_iload dW_435 rfl ?_
  refine mb_iconst (2) dW_437 (by decide) ?_
  refine mb_iadd dW_438 ?_
  rw [ix_2]
  refine mb_sld rfl dW_439 (vp_in_nI (by omega) (by omega)) ?_
  refine mb_VL (R' := mR 2 43) (mc := 0) (ms := 0) (hpc := rp thr (nI c) J) (fun j => j + 68) (fun h => (pic (nI c) fil' I' L' ++ [eo (hfo f r)]) ++ wRn h) (fun q dT => mx_w q dT (pic (nI c) fil' I' L' ++ [eo (hfo f r)])) (fun _ _ => []) [.int (wx xs i 1), .int (wx xs i 2)] [] dW_440 rfl rfl mT_G jM_registers_ok jM_registers_v (mT_4 (i := 59) rfl rfl) ⟨rfl, rfl, Nat.le_of_ble_eq_true rfl, Nat.le_of_ble_eq_true rfl⟩ rfl rfl (fun _ _ => rfl) (Nat.le_of_ble_eq_true rfl) (Nat.le_of_ble_eq_true rfl) rfl rfl rfl (fun h _ q dT => wputM _ (pic_len1 _ _ _ _ _) h q dT) (cM_registers (x := (wx xs i 1)) (y := (wx xs i 2)) (Q := fun r h => r = .inl (some (.int (rRegs c J (wx xs i 1) (wx xs i 2)).1)) ∧ h = rp ((rRegs c J (wx xs i 1) (wx xs i 2)).2) (nI c) (J)) hc ⟨rfl, rfl⟩) (fun Y h q => by cases q.1) (fun v h q => by obtain ⟨e1, rfl⟩ := q; cases e1; exact ⟨(rp_len _ _ _).trans (rp_len _ _ _).symm, Or.inr ⟨_, rfl⟩⟩) ⟨hn, hz⟩ (fun v h q => ?_)
  obtain ⟨e1, rfl⟩ := q
  cases e1
  refine mb_istore dW_443 (Nat.le_of_ble_eq_true rfl) rfl ?_
  refine mb_aload_n dW_445 rfl ?_
  refine mb_VL (R' := mR 0 0) (mc := 0) (ms := 0) (hpc := rp ((rRegs c J (wx xs i 1) (wx xs i 2)).2) (nI c) (J)) (fun j => j + 68) (fun h => (pic (nI c) fil' I' L' ++ [eo (hfo f r)]) ++ wRn h) (fun q dT => mx_w q dT (pic (nI c) fil' I' L' ++ [eo (hfo f r)])) (fun _ _ => []) [] [] dW_446 rfl rfl mT_G jM_thrown_ok jM_thrown_v (mT_4 (i := 12) rfl rfl) ⟨rfl, rfl, Nat.le_of_ble_eq_true rfl, Nat.le_of_ble_eq_true rfl⟩ rfl rfl (fun _ _ => rfl) (Nat.le_of_ble_eq_true rfl) (Nat.le_of_ble_eq_true rfl) rfl rfl rfl (fun h _ q dT => wputM _ (pic_len1 _ _ _ _ _) h q dT) (cM_thrown (Q := fun r h => r = .inl (some (.int ((rRegs c J (wx xs i 1) (wx xs i 2)).2))) ∧ h = rp ((rRegs c J (wx xs i 1) (wx xs i 2)).2) (nI c) (J)) ⟨rfl, rfl⟩) (fun Y h q => by cases q.1) (fun v h q => by obtain ⟨e1, rfl⟩ := q; cases e1; exact ⟨(rp_len _ _ _).trans (rp_len _ _ _).symm, Or.inr ⟨_, rfl⟩⟩) ⟨hn, hz⟩ (fun v h q => ?_)
  obtain ⟨e1, rfl⟩ := q
  cases e1
  refine mb_iload dW_449 rfl ?_
  refine mb_icmp_eq 456 dW_451 rfl (fun _ => ?_) (fun h9 => absurd hthr h9)
  refine mb_iload dW_456 rfl ?_
  have hend : wB LL xs (n + 1) (z + 6) 473 [.ref 1000, .ref 0, .ref 68, .ref 67, .int (nI i), .int (hkx [(2, 1)] r), .int ((rRegs c J (wx xs i 1) (wx xs i 2)).1)] [] (lP (pic (nI c) fil' I' L') (hfo f r) (rp ((rRegs c J (wx xs i 1) (wx xs i 2)).2) (nI c) (J))) := by
    refine mb_goto 973 dW_473 rfl ?_
    refine mb_drop 5 ?_
    refine mb_drop 6 ?_
    exact K _ _ _ _ _ _ _ R'
  refine mb_if_ne 473 dW_458 rfl (fun _ => hend) (fun h0 => ?_)
  refine mb_aload_n dW_461 rfl ?_
  refine mb_iconst (0) dW_462 (by decide) ?_
  refine mb_lald dW_463 (b := 67) (n := 1) (f := (hfo f r)) rfl (vp_in_nI (n := 0) (by decide) (by decide)) ?_
  refine mb_iload dW_464 rfl ?_
  refine mb_i2l dW_466 rfl ?_
  refine mb_lcmp dW_467 ?_
  exact mb_if_eq 473 dW_468 rfl (fun _ => hend) (fun h9 => absurd (lcmp_0 (hout h0 f)) h9)
theorem law_gates (R : Rel c I L J) (hi : i + 5 ≤ LL) (hLL : LL ≤ 2560) (hn : n + 1 ≤ 601024) (hz : z + 6 ≤ 7293034) (K : lawK LL xs (n + 1) (z + 6) i) : wB LL xs n z 476 (wls i) [] (lP (pic (nI c) fil I L) f (rp thr (nI c) J)) := by
  have hc := R.hc
  refine mb_aload_n dW_476 rfl ?_
  refine mb_VL (R' := mR 0 0) (mc := 0) (ms := 0) (hpc := pic (nI c) fil I L) (fun j => j) (fun h => (h ++ [eo f]) ++ wRn (rp thr (nI c) J)) (fun _ _ => []) (fun q dT => (q 67, mx_e q dT (eo f)) :: (wRn (rp thr (nI c) J)).mapIdx (fun i x => (q (i + 68), mx_e q dT x))) [] [] dW_477 rfl rfl mT_G jA_gates_ok jA_gates_v (mT_1 (i := 180) rfl rfl) ⟨rfl, rfl, Nat.le_of_ble_eq_true rfl, Nat.le_of_ble_eq_true rfl⟩ rfl rfl (fun _ _ => rfl) (Nat.le_of_ble_eq_true rfl) (Nat.le_of_ble_eq_true rfl) rfl rfl rfl (fun h hn q dT => wputX _ _ h hn q dT) (cA_gates (Q := fun r h => r = .inl (some (.int (nI c))) ∧ h = pic (nI c) fil I L) ⟨rfl, rfl⟩) (fun Y h q => by cases q.1) (fun v h q => by obtain ⟨e1, rfl⟩ := q; cases e1; exact ⟨(pic_len _ _ _ _).trans (pic_len _ _ _ _).symm, Or.inr ⟨_, rfl⟩⟩) ⟨Nat.le_of_succ_le hn, Nat.le_trans (Nat.le_add_right z 6) hz⟩ (fun v h q => ?_)
  obtain ⟨e1, rfl⟩ := q
  cases e1
  refine mb_aload_n dW_480 rfl ?_
  refine mb_VL (R' := mR 0 0) (mc := 0) (ms := 0) (hpc := rp thr (nI c) J) (fun j => j + 68) (fun h => (pic (nI c) fil I L ++ [eo f]) ++ wRn h) (fun q dT => mx_w q dT (pic (nI c) fil I L ++ [eo f])) (fun _ _ => []) [] [.int (nI c)] dW_481 rfl rfl mT_G jM_gates_ok jM_gates_v (mT_4 (i := 63) rfl rfl) ⟨rfl, rfl, Nat.le_of_ble_eq_true rfl, Nat.le_of_ble_eq_true rfl⟩ rfl rfl (fun _ _ => rfl) (Nat.le_of_ble_eq_true rfl) (Nat.le_of_ble_eq_true rfl) rfl rfl rfl (fun h _ q dT => wputM _ (pic_len1 _ _ _ _ _) h q dT) (cM_gates (Q := fun r h => r = .inl (some (.int (nI c))) ∧ h = rp 0 (nI c) J) ⟨rfl, rfl⟩) (fun Y h q => by cases q.1) (fun v h q => by obtain ⟨e1, rfl⟩ := q; cases e1; exact ⟨(rp_len _ _ _).trans (rp_len _ _ _).symm, Or.inr ⟨_, rfl⟩⟩) ⟨Nat.le_of_succ_le hn, Nat.le_trans (Nat.le_add_right z 6) hz⟩ (fun v h q => ?_)
  obtain ⟨e1, rfl⟩ := q
  cases e1
  refine mb_icmp_eq 973 dW_484 rfl (fun _ => ?_) (fun h9 => absurd rfl h9)
  refine mb_widen (n := n + 1) (z := z + 6) (Nat.le_add_right _ _) (Nat.le_add_right _ _) ?_
  exact K _ _ _ _ _ _ _ R
theorem law_sound (R : Rel c I L J) (hi : i + 5 ≤ LL) (hLL : LL ≤ 2560) (hn : n + 1 ≤ 601024) (hz : z + 6 ≤ 7293034) (K : lawK LL xs (n + 1) (z + 6) i) : wB LL xs n z 489 (wls i) [] (lP (pic (nI c) fil I L) f (rp thr (nI c) J)) := by
  have hc := R.hc
  obtain ⟨⟨fil', I', L', eh, R'⟩, he⟩ := sound_agr (fil := fil) R
  refine mb_aload_n dW_489 rfl ?_
  refine mb_VL (R' := mR 6 136) (mc := 0) (ms := 0) (hpc := pic (nI c) fil I L) (fun j => j) (fun h => (h ++ [eo f]) ++ wRn (rp thr (nI c) J)) (fun _ _ => []) (fun q dT => (q 67, mx_e q dT (eo f)) :: (wRn (rp thr (nI c) J)).mapIdx (fun i x => (q (i + 68), mx_e q dT x))) [] [] dW_490 rfl rfl mT_G jA_sound_ok jA_sound_v (mT_1 (i := 184) rfl rfl) ⟨rfl, rfl, Nat.le_of_ble_eq_true rfl, Nat.le_of_ble_eq_true rfl⟩ rfl rfl (fun _ _ => rfl) (Nat.le_of_ble_eq_true rfl) (Nat.le_of_ble_eq_true rfl) rfl rfl rfl (fun h hn q dT => wputX _ _ h hn q dT) (cA_sound (Q := fun r h => r = .inl (some (.int (i01 (sndB c I)))) ∧ h = pic (nI c) fil' I' L') hc (Rel_sr R) ⟨rfl, eh⟩) (fun Y h q => by cases q.1) (fun v h q => by obtain ⟨e1, rfl⟩ := q; cases e1; exact ⟨(pic_len _ _ _ _).trans (pic_len _ _ _ _).symm, Or.inr ⟨_, rfl⟩⟩) ⟨Nat.le_of_succ_le hn, Nat.le_trans (Nat.le_add_right z 6) hz⟩ (fun v h q => ?_)
  obtain ⟨e1, rfl⟩ := q
  cases e1
  refine mb_aload_n dW_493 rfl ?_
  refine mb_VL (R' := mR 3 70) (mc := 0) (ms := 0) (hpc := rp thr (nI c) J) (fun j => j + 68) (fun h => (pic (nI c) fil' I' L' ++ [eo f]) ++ wRn h) (fun q dT => mx_w q dT (pic (nI c) fil' I' L' ++ [eo f])) (fun _ _ => []) [] [.int (i01 (sndB c I))] dW_494 rfl rfl mT_G jM_sound_ok jM_sound_v (mT_4 (i := 67) rfl rfl) ⟨rfl, rfl, Nat.le_of_ble_eq_true rfl, Nat.le_of_ble_eq_true rfl⟩ rfl rfl (fun _ _ => rfl) (Nat.le_of_ble_eq_true rfl) (Nat.le_of_ble_eq_true rfl) rfl rfl rfl (fun h _ q dT => wputM _ (pic_len1 _ _ _ _ _) h q dT) (cM_sound (Q := fun r h => r = .inl (some (.int (i01 (rSnd c J)))) ∧ h = rp 0 (nI c) (rSnI c J)) hc (Rel_fr R) ⟨rfl, rfl⟩) (fun Y h q => by cases q.1) (fun v h q => by obtain ⟨e1, rfl⟩ := q; cases e1; exact ⟨(rp_len _ _ _).trans (rp_len _ _ _).symm, Or.inr ⟨_, rfl⟩⟩) ⟨Nat.le_of_succ_le hn, Nat.le_trans (Nat.le_add_right z 6) hz⟩ (fun v h q => ?_)
  obtain ⟨e1, rfl⟩ := q
  cases e1
  refine mb_icmp_eq 973 dW_497 rfl (fun _ => ?_) (fun h9 => absurd he h9)
  refine mb_widen (n := n + 1) (z := z + 6) (Nat.le_add_right _ _) (Nat.le_add_right _ _) ?_
  exact K _ _ _ _ _ _ _ R'
theorem law_period (R : Rel c I L J) (hi : i + 5 ≤ LL) (hLL : LL ≤ 2560) (hn : n + 1 ≤ 601024) (hz : z + 6 ≤ 7293034) (K : lawK LL xs (n + 1) (z + 6) i) : wB LL xs n z 502 (wls i) [] (lP (pic (nI c) fil I L) f (rp thr (nI c) J)) := by
  have hc := R.hc
  have hag := period_agr (fil := fil) R
  rcases hA : aPer c fil I L with ⟨r, h2⟩
  have hag : gOn c h2 ((rPeriod c J).2.2) ∧ AgI [(3, 1)] r ((rPeriod c J).2.1) ((rPeriod c J).1) := by rw [hA] at hag; exact hag
  obtain ⟨⟨fil', I', L', rfl, R'⟩, hk⟩ := hag
  obtain ⟨hr, hthr, hout⟩ := ag1 hk
  refine mb_aload_n dW_502 rfl ?_
  refine mb_aload_n dW_503 rfl ?_
  refine mb_SH (R' := mRH) (n := 2) (hpc := pic (nI c) fil I L ++ [eo f]) (hpc' := pic (nI c) fil' I' L' ++ [eo (hfo f r)]) (kx := hkx [(3, 1)] r) (hh := hhW_period) (tb' := tbW_period) (fun h => h ++ wRn (rp thr (nI c) J)) (fun q dT => (wRn (rp thr (nI c) J)).mapIdx (fun i x => (q (i + 68), mx_e q dT x))) [.ref 0, .ref 67] [] dW_504 rfl mT_G cwW_period iniW (by decide +kernel) ⟨by decide +kernel, by decide +kernel⟩ (by decide +kernel) vW_period (mT_2 (i := 198) rfl rfl) ⟨rfl, rfl, Nat.le_of_ble_eq_true rfl, Nat.le_of_ble_eq_true rfl⟩ rfl rfl (Nat.le_of_ble_eq_true rfl) (Nat.le_of_ble_eq_true rfl) (fun h hn q dT => wputH _ h (hn.trans (pic_len1 _ _ _ _ _)) q dT) rfl (by decide) (hh_period hc (Rel_sr R) hA hr (pic_len _ _ _ _)) ((pic_len1 _ _ _ _ _).trans (pic_len1 _ _ _ _ _).symm) ⟨hn, hz⟩ ?_
  refine mb_istore dW_507 (Nat.le_of_ble_eq_true rfl) rfl ?_
  refine mb_aload_n dW_509 rfl ?_
  refine mb_VL (R' := mR 3 70) (mc := 0) (ms := 0) (hpc := rp thr (nI c) J) (fun j => j + 68) (fun h => (pic (nI c) fil' I' L' ++ [eo (hfo f r)]) ++ wRn h) (fun q dT => mx_w q dT (pic (nI c) fil' I' L' ++ [eo (hfo f r)])) (fun _ _ => []) [] [] dW_510 rfl rfl mT_G jM_period_ok jM_period_v (mT_4 (i := 79) rfl rfl) ⟨rfl, rfl, Nat.le_of_ble_eq_true rfl, Nat.le_of_ble_eq_true rfl⟩ rfl rfl (fun _ _ => rfl) (Nat.le_of_ble_eq_true rfl) (Nat.le_of_ble_eq_true rfl) rfl rfl rfl (fun h _ q dT => wputM _ (pic_len1 _ _ _ _ _) h q dT) (cM_period  (Q := fun r h => r = .inl (some (.int (rPeriod c J).1)) ∧ h = rp ((rPeriod c J).2.1) (nI c) ((rPeriod c J).2.2)) hc (Rel_fr R) ⟨rfl, rfl⟩) (fun Y h q => by cases q.1) (fun v h q => by obtain ⟨e1, rfl⟩ := q; cases e1; exact ⟨(rp_len _ _ _).trans (rp_len _ _ _).symm, Or.inr ⟨_, rfl⟩⟩) ⟨hn, hz⟩ (fun v h q => ?_)
  obtain ⟨e1, rfl⟩ := q
  cases e1
  refine mb_istore dW_513 (Nat.le_of_ble_eq_true rfl) rfl ?_
  refine mb_aload_n dW_515 rfl ?_
  refine mb_VL (R' := mR 0 0) (mc := 0) (ms := 0) (hpc := rp ((rPeriod c J).2.1) (nI c) ((rPeriod c J).2.2)) (fun j => j + 68) (fun h => (pic (nI c) fil' I' L' ++ [eo (hfo f r)]) ++ wRn h) (fun q dT => mx_w q dT (pic (nI c) fil' I' L' ++ [eo (hfo f r)])) (fun _ _ => []) [] [] dW_516 rfl rfl mT_G jM_thrown_ok jM_thrown_v (mT_4 (i := 12) rfl rfl) ⟨rfl, rfl, Nat.le_of_ble_eq_true rfl, Nat.le_of_ble_eq_true rfl⟩ rfl rfl (fun _ _ => rfl) (Nat.le_of_ble_eq_true rfl) (Nat.le_of_ble_eq_true rfl) rfl rfl rfl (fun h _ q dT => wputM _ (pic_len1 _ _ _ _ _) h q dT) (cM_thrown (Q := fun r h => r = .inl (some (.int ((rPeriod c J).2.1))) ∧ h = rp ((rPeriod c J).2.1) (nI c) ((rPeriod c J).2.2)) ⟨rfl, rfl⟩) (fun Y h q => by cases q.1) (fun v h q => by obtain ⟨e1, rfl⟩ := q; cases e1; exact ⟨(rp_len _ _ _).trans (rp_len _ _ _).symm, Or.inr ⟨_, rfl⟩⟩) ⟨hn, hz⟩ (fun v h q => ?_)
  obtain ⟨e1, rfl⟩ := q
  cases e1
  refine mb_iload dW_519 rfl ?_
  refine mb_icmp_eq 526 dW_521 rfl (fun _ => ?_) (fun h9 => absurd hthr h9)
  refine mb_iload dW_526 rfl ?_
  have hend : wB LL xs (n + 1) (z + 6) 543 [.ref 1000, .ref 0, .ref 68, .ref 67, .int (nI i), .int (hkx [(3, 1)] r), .int ((rPeriod c J).1)] [] (lP (pic (nI c) fil' I' L') (hfo f r) (rp ((rPeriod c J).2.1) (nI c) ((rPeriod c J).2.2))) := by
    refine mb_goto 973 dW_543 rfl ?_
    refine mb_drop 5 ?_
    refine mb_drop 6 ?_
    exact K _ _ _ _ _ _ _ R'
  refine mb_if_ne 543 dW_528 rfl (fun _ => hend) (fun h0 => ?_)
  refine mb_aload_n dW_531 rfl ?_
  refine mb_iconst (0) dW_532 (by decide) ?_
  refine mb_lald dW_533 (b := 67) (n := 1) (f := (hfo f r)) rfl (vp_in_nI (n := 0) (by decide) (by decide)) ?_
  refine mb_iload dW_534 rfl ?_
  refine mb_i2l dW_536 rfl ?_
  refine mb_lcmp dW_537 ?_
  exact mb_if_eq 543 dW_538 rfl (fun _ => hend) (fun h9 => absurd (lcmp_0 (hout h0 f)) h9)
theorem law_weight (R : Rel c I L J) (hi : i + 5 ≤ LL) (hLL : LL ≤ 2560) (hn : n + 1 ≤ 601024) (hz : z + 6 ≤ 7293034) (K : lawK LL xs (n + 1) (z + 6) i) : wB LL xs n z 546 (wls i) [] (lP (pic (nI c) fil I L) f (rp thr (nI c) J)) := by
  have hc := R.hc
  have hag := weight_agr (fil := fil) R (wx xs i 1) (wx xs i 2)
  rcases hA : aMat 26 c fil I L (wx xs i 1) (wx xs i 2) with ⟨r, h2⟩
  have hag : gOn c h2 ((rWeight c J (wx xs i 1) (wx xs i 2)).2.2) ∧ AgI [(2, 1), (3, 2)] r ((rWeight c J (wx xs i 1) (wx xs i 2)).2.1) ((rWeight c J (wx xs i 1) (wx xs i 2)).1) := by rw [hA] at hag; exact hag
  obtain ⟨⟨fil', I', L', rfl, R'⟩, hk⟩ := hag
  obtain ⟨hr, hthr, hout⟩ := ag2 (by decide) hk
  refine mb_aload_n dW_546 rfl ?_
  refine mb_aload_n dW_547 rfl ?_
  refine mb_iload dW_548 rfl ?_
  refine mb_iconst (1) dW_550 (by decide) ?_
  refine mb_iadd dW_551 ?_
  rw [ix_1]
  refine mb_sld rfl dW_552 (vp_in_nI (by omega) (by omega)) ?_
  refine mb_aload_n dW_553 rfl ?_
  refine mb_iload dW_554 rfl ?_
  refine mb_iconst (2) dW_556 (by decide) ?_
  refine mb_iadd dW_557 ?_
  rw [ix_2]
  refine mb_sld rfl dW_558 (vp_in_nI (by omega) (by omega)) ?_
  refine mb_aload_n dW_559 rfl ?_
  refine mb_SH (R' := mRH) (n := 4) (hpc := pic (nI c) fil I L ++ [eo f]) (hpc' := pic (nI c) fil' I' L' ++ [eo (hfo f r)]) (kx := hkx [(2, 1), (3, 2)] r) (hh := hhW_weight) (tb' := tbW_weight) (fun h => h ++ wRn (rp thr (nI c) J)) (fun q dT => (wRn (rp thr (nI c) J)).mapIdx (fun i x => (q (i + 68), mx_e q dT x))) [.ref 0, .int (wx xs i 1), .int (wx xs i 2), .ref 67] [] dW_560 rfl mT_G cwW_weight iniW (by decide +kernel) ⟨by decide +kernel, by decide +kernel⟩ (by decide +kernel) vW_weight (mT_3 (i := 12) rfl rfl) ⟨rfl, rfl, Nat.le_of_ble_eq_true rfl, Nat.le_of_ble_eq_true rfl⟩ rfl rfl (Nat.le_of_ble_eq_true rfl) (Nat.le_of_ble_eq_true rfl) (fun h hn q dT => wputH _ h (hn.trans (pic_len1 _ _ _ _ _)) q dT) rfl (by decide) (hh_weight hc (Rel_sr R) hA hr (pic_len _ _ _ _)) ((pic_len1 _ _ _ _ _).trans (pic_len1 _ _ _ _ _).symm) ⟨hn, hz⟩ ?_
  refine mb_istore dW_563 (Nat.le_of_ble_eq_true rfl) rfl ?_
  refine mb_aload_n dW_565 rfl ?_
  refine mb_aload_n dW_566 rfl ?_
  refine mb_iload dW_567 rfl ?_
  refine mb_iconst (1) dW_569 (by decide) ?_
  refine mb_iadd dW_570 ?_
  rw [ix_1]
  refine mb_sld rfl dW_571 (vp_in_nI (by omega) (by omega)) ?_
  refine mb_aload_n dW_572 rfl ?_
  refine mb_iload dW_573 rfl ?_
  refine mb_iconst (2) dW_575 (by decide) ?_
  refine mb_iadd dW_576 ?_
  rw [ix_2]
  refine mb_sld rfl dW_577 (vp_in_nI (by omega) (by omega)) ?_
  refine mb_VL (R' := mR 3 70) (mc := 0) (ms := 0) (hpc := rp thr (nI c) J) (fun j => j + 68) (fun h => (pic (nI c) fil' I' L' ++ [eo (hfo f r)]) ++ wRn h) (fun q dT => mx_w q dT (pic (nI c) fil' I' L' ++ [eo (hfo f r)])) (fun _ _ => []) [.int (wx xs i 1), .int (wx xs i 2)] [] dW_578 rfl rfl mT_G jM_weight_ok jM_weight_v (mT_4 (i := 99) rfl rfl) ⟨rfl, rfl, Nat.le_of_ble_eq_true rfl, Nat.le_of_ble_eq_true rfl⟩ rfl rfl (fun _ _ => rfl) (Nat.le_of_ble_eq_true rfl) (Nat.le_of_ble_eq_true rfl) rfl rfl rfl (fun h _ q dT => wputM _ (pic_len1 _ _ _ _ _) h q dT) (cM_weight (x := (wx xs i 1)) (y := (wx xs i 2)) (Q := fun r h => r = .inl (some (.int (rWeight c J (wx xs i 1) (wx xs i 2)).1)) ∧ h = rp ((rWeight c J (wx xs i 1) (wx xs i 2)).2.1) (nI c) ((rWeight c J (wx xs i 1) (wx xs i 2)).2.2)) hc (Rel_fr R) ⟨rfl, rfl⟩) (fun Y h q => by cases q.1) (fun v h q => by obtain ⟨e1, rfl⟩ := q; cases e1; exact ⟨(rp_len _ _ _).trans (rp_len _ _ _).symm, Or.inr ⟨_, rfl⟩⟩) ⟨hn, hz⟩ (fun v h q => ?_)
  obtain ⟨e1, rfl⟩ := q
  cases e1
  refine mb_istore dW_581 (Nat.le_of_ble_eq_true rfl) rfl ?_
  refine mb_aload_n dW_583 rfl ?_
  refine mb_VL (R' := mR 0 0) (mc := 0) (ms := 0) (hpc := rp ((rWeight c J (wx xs i 1) (wx xs i 2)).2.1) (nI c) ((rWeight c J (wx xs i 1) (wx xs i 2)).2.2)) (fun j => j + 68) (fun h => (pic (nI c) fil' I' L' ++ [eo (hfo f r)]) ++ wRn h) (fun q dT => mx_w q dT (pic (nI c) fil' I' L' ++ [eo (hfo f r)])) (fun _ _ => []) [] [] dW_584 rfl rfl mT_G jM_thrown_ok jM_thrown_v (mT_4 (i := 12) rfl rfl) ⟨rfl, rfl, Nat.le_of_ble_eq_true rfl, Nat.le_of_ble_eq_true rfl⟩ rfl rfl (fun _ _ => rfl) (Nat.le_of_ble_eq_true rfl) (Nat.le_of_ble_eq_true rfl) rfl rfl rfl (fun h _ q dT => wputM _ (pic_len1 _ _ _ _ _) h q dT) (cM_thrown (Q := fun r h => r = .inl (some (.int ((rWeight c J (wx xs i 1) (wx xs i 2)).2.1))) ∧ h = rp ((rWeight c J (wx xs i 1) (wx xs i 2)).2.1) (nI c) ((rWeight c J (wx xs i 1) (wx xs i 2)).2.2)) ⟨rfl, rfl⟩) (fun Y h q => by cases q.1) (fun v h q => by obtain ⟨e1, rfl⟩ := q; cases e1; exact ⟨(rp_len _ _ _).trans (rp_len _ _ _).symm, Or.inr ⟨_, rfl⟩⟩) ⟨hn, hz⟩ (fun v h q => ?_)
  obtain ⟨e1, rfl⟩ := q
  cases e1
  refine mb_iload dW_587 rfl ?_
  refine mb_icmp_eq 594 dW_589 rfl (fun _ => ?_) (fun h9 => absurd hthr h9)
  refine mb_iload dW_594 rfl ?_
  have hend : wB LL xs (n + 1) (z + 6) 611 [.ref 1000, .ref 0, .ref 68, .ref 67, .int (nI i), .int (hkx [(2, 1), (3, 2)] r), .int ((rWeight c J (wx xs i 1) (wx xs i 2)).1)] [] (lP (pic (nI c) fil' I' L') (hfo f r) (rp ((rWeight c J (wx xs i 1) (wx xs i 2)).2.1) (nI c) ((rWeight c J (wx xs i 1) (wx xs i 2)).2.2))) := by
    refine mb_goto 973 dW_611 rfl ?_
    refine mb_drop 5 ?_
    refine mb_drop 6 ?_
    exact K _ _ _ _ _ _ _ R'
  refine mb_if_ne 611 dW_596 rfl (fun _ => hend) (fun h0 => ?_)
  refine mb_aload_n dW_599 rfl ?_
  refine mb_iconst (0) dW_600 (by decide) ?_
  refine mb_lald dW_601 (b := 67) (n := 1) (f := (hfo f r)) rfl (vp_in_nI (n := 0) (by decide) (by decide)) ?_
  refine mb_iload dW_602 rfl ?_
  refine mb_i2l dW_604 rfl ?_
  refine mb_lcmp dW_605 ?_
  exact mb_if_eq 611 dW_606 rfl (fun _ => hend) (fun h9 => absurd (lcmp_0 (hout h0 f)) h9)
theorem law_delay (R : Rel c I L J) (hi : i + 5 ≤ LL) (hLL : LL ≤ 2560) (hn : n + 1 ≤ 601024) (hz : z + 6 ≤ 7293034) (K : lawK LL xs (n + 1) (z + 6) i) : wB LL xs n z 614 (wls i) [] (lP (pic (nI c) fil I L) f (rp thr (nI c) J)) := by
  have hc := R.hc
  have hag := delay_agr (fil := fil) R (wx xs i 1) (wx xs i 2)
  rcases hA : aMat 39 c fil I L (wx xs i 1) (wx xs i 2) with ⟨r, h2⟩
  have hag : gOn c h2 ((rDelay c J (wx xs i 1) (wx xs i 2)).2.2) ∧ AgI [(2, 1), (3, 2)] r ((rDelay c J (wx xs i 1) (wx xs i 2)).2.1) ((rDelay c J (wx xs i 1) (wx xs i 2)).1) := by rw [hA] at hag; exact hag
  obtain ⟨⟨fil', I', L', rfl, R'⟩, hk⟩ := hag
  obtain ⟨hr, hthr, hout⟩ := ag2 (by decide) hk
  refine mb_aload_n dW_614 rfl ?_
  refine mb_aload_n dW_615 rfl ?_
  refine mb_iload dW_616 rfl ?_
  refine mb_iconst (1) dW_618 (by decide) ?_
  refine mb_iadd dW_619 ?_
  rw [ix_1]
  refine mb_sld rfl dW_620 (vp_in_nI (by omega) (by omega)) ?_
  refine mb_aload_n dW_621 rfl ?_
  refine mb_iload dW_622 rfl ?_
  refine mb_iconst (2) dW_624 (by decide) ?_
  refine mb_iadd dW_625 ?_
  rw [ix_2]
  refine mb_sld rfl dW_626 (vp_in_nI (by omega) (by omega)) ?_
  refine mb_aload_n dW_627 rfl ?_
  refine mb_SH (R' := mRH) (n := 4) (hpc := pic (nI c) fil I L ++ [eo f]) (hpc' := pic (nI c) fil' I' L' ++ [eo (hfo f r)]) (kx := hkx [(2, 1), (3, 2)] r) (hh := hhW_delay) (tb' := tbW_delay) (fun h => h ++ wRn (rp thr (nI c) J)) (fun q dT => (wRn (rp thr (nI c) J)).mapIdx (fun i x => (q (i + 68), mx_e q dT x))) [.ref 0, .int (wx xs i 1), .int (wx xs i 2), .ref 67] [] dW_628 rfl mT_G cwW_delay iniW (by decide +kernel) ⟨by decide +kernel, by decide +kernel⟩ (by decide +kernel) vW_delay (mT_3 (i := 24) rfl rfl) ⟨rfl, rfl, Nat.le_of_ble_eq_true rfl, Nat.le_of_ble_eq_true rfl⟩ rfl rfl (Nat.le_of_ble_eq_true rfl) (Nat.le_of_ble_eq_true rfl) (fun h hn q dT => wputH _ h (hn.trans (pic_len1 _ _ _ _ _)) q dT) rfl (by decide) (hh_delay hc (Rel_sr R) hA hr (pic_len _ _ _ _)) ((pic_len1 _ _ _ _ _).trans (pic_len1 _ _ _ _ _).symm) ⟨hn, hz⟩ ?_
  refine mb_istore dW_631 (Nat.le_of_ble_eq_true rfl) rfl ?_
  refine mb_aload_n dW_633 rfl ?_
  refine mb_aload_n dW_634 rfl ?_
  refine mb_iload dW_635 rfl ?_
  refine mb_iconst (1) dW_637 (by decide) ?_
  refine mb_iadd dW_638 ?_
  rw [ix_1]
  refine mb_sld rfl dW_639 (vp_in_nI (by omega) (by omega)) ?_
  refine mb_aload_n dW_640 rfl ?_
  refine mb_iload dW_641 rfl ?_
  refine mb_iconst (2) dW_643 (by decide) ?_
  refine mb_iadd dW_644 ?_
  rw [ix_2]
  refine mb_sld rfl dW_645 (vp_in_nI (by omega) (by omega)) ?_
  refine mb_VL (R' := mR 3 70) (mc := 0) (ms := 0) (hpc := rp thr (nI c) J) (fun j => j + 68) (fun h => (pic (nI c) fil' I' L' ++ [eo (hfo f r)]) ++ wRn h) (fun q dT => mx_w q dT (pic (nI c) fil' I' L' ++ [eo (hfo f r)])) (fun _ _ => []) [.int (wx xs i 1), .int (wx xs i 2)] [] dW_646 rfl rfl mT_G jM_delay_ok jM_delay_v (mT_4 (i := 103) rfl rfl) ⟨rfl, rfl, Nat.le_of_ble_eq_true rfl, Nat.le_of_ble_eq_true rfl⟩ rfl rfl (fun _ _ => rfl) (Nat.le_of_ble_eq_true rfl) (Nat.le_of_ble_eq_true rfl) rfl rfl rfl (fun h _ q dT => wputM _ (pic_len1 _ _ _ _ _) h q dT) (cM_delay (x := (wx xs i 1)) (y := (wx xs i 2)) (Q := fun r h => r = .inl (some (.int (rDelay c J (wx xs i 1) (wx xs i 2)).1)) ∧ h = rp ((rDelay c J (wx xs i 1) (wx xs i 2)).2.1) (nI c) ((rDelay c J (wx xs i 1) (wx xs i 2)).2.2)) hc (Rel_fr R) ⟨rfl, rfl⟩) (fun Y h q => by cases q.1) (fun v h q => by obtain ⟨e1, rfl⟩ := q; cases e1; exact ⟨(rp_len _ _ _).trans (rp_len _ _ _).symm, Or.inr ⟨_, rfl⟩⟩) ⟨hn, hz⟩ (fun v h q => ?_)
  obtain ⟨e1, rfl⟩ := q
  cases e1
  refine mb_istore dW_649 (Nat.le_of_ble_eq_true rfl) rfl ?_
  refine mb_aload_n dW_651 rfl ?_
  refine mb_VL (R' := mR 0 0) (mc := 0) (ms := 0) (hpc := rp ((rDelay c J (wx xs i 1) (wx xs i 2)).2.1) (nI c) ((rDelay c J (wx xs i 1) (wx xs i 2)).2.2)) (fun j => j + 68) (fun h => (pic (nI c) fil' I' L' ++ [eo (hfo f r)]) ++ wRn h) (fun q dT => mx_w q dT (pic (nI c) fil' I' L' ++ [eo (hfo f r)])) (fun _ _ => []) [] [] dW_652 rfl rfl mT_G jM_thrown_ok jM_thrown_v (mT_4 (i := 12) rfl rfl) ⟨rfl, rfl, Nat.le_of_ble_eq_true rfl, Nat.le_of_ble_eq_true rfl⟩ rfl rfl (fun _ _ => rfl) (Nat.le_of_ble_eq_true rfl) (Nat.le_of_ble_eq_true rfl) rfl rfl rfl (fun h _ q dT => wputM _ (pic_len1 _ _ _ _ _) h q dT) (cM_thrown (Q := fun r h => r = .inl (some (.int ((rDelay c J (wx xs i 1) (wx xs i 2)).2.1))) ∧ h = rp ((rDelay c J (wx xs i 1) (wx xs i 2)).2.1) (nI c) ((rDelay c J (wx xs i 1) (wx xs i 2)).2.2)) ⟨rfl, rfl⟩) (fun Y h q => by cases q.1) (fun v h q => by obtain ⟨e1, rfl⟩ := q; cases e1; exact ⟨(rp_len _ _ _).trans (rp_len _ _ _).symm, Or.inr ⟨_, rfl⟩⟩) ⟨hn, hz⟩ (fun v h q => ?_)
  obtain ⟨e1, rfl⟩ := q
  cases e1
  refine mb_iload dW_655 rfl ?_
  refine mb_icmp_eq 662 dW_657 rfl (fun _ => ?_) (fun h9 => absurd hthr h9)
  refine mb_iload dW_662 rfl ?_
  have hend : wB LL xs (n + 1) (z + 6) 679 [.ref 1000, .ref 0, .ref 68, .ref 67, .int (nI i), .int (hkx [(2, 1), (3, 2)] r), .int ((rDelay c J (wx xs i 1) (wx xs i 2)).1)] [] (lP (pic (nI c) fil' I' L') (hfo f r) (rp ((rDelay c J (wx xs i 1) (wx xs i 2)).2.1) (nI c) ((rDelay c J (wx xs i 1) (wx xs i 2)).2.2))) := by
    refine mb_goto 973 dW_679 rfl ?_
    refine mb_drop 5 ?_
    refine mb_drop 6 ?_
    exact K _ _ _ _ _ _ _ R'
  refine mb_if_ne 679 dW_664 rfl (fun _ => hend) (fun h0 => ?_)
  refine mb_aload_n dW_667 rfl ?_
  refine mb_iconst (0) dW_668 (by decide) ?_
  refine mb_lald dW_669 (b := 67) (n := 1) (f := (hfo f r)) rfl (vp_in_nI (n := 0) (by decide) (by decide)) ?_
  refine mb_iload dW_670 rfl ?_
  refine mb_i2l dW_672 rfl ?_
  refine mb_lcmp dW_673 ?_
  exact mb_if_eq 679 dW_674 rfl (fun _ => hend) (fun h9 => absurd (lcmp_0 (hout h0 f)) h9)
theorem law_least (R : Rel c I L J) (hi : i + 5 ≤ LL) (hLL : LL ≤ 2560) (hn : n + 1 ≤ 601024) (hz : z + 6 ≤ 7293034) (K : lawK LL xs (n + 1) (z + 6) i) : wB LL xs n z 682 (wls i) [] (lP (pic (nI c) fil I L) f (rp thr (nI c) J)) := by
  have hc := R.hc
  obtain ⟨q, hq, hag⟩ := least_agr (fil := fil) R
  rcases hA : aLst c fil I L with ⟨r, h2⟩
  have hag : gOn c h2 (q.2.2) ∧ AgI [(3, 1)] r (q.2.1) (q.1) := by rw [hA] at hag; exact hag
  obtain ⟨⟨fil', I', L', rfl, R'⟩, hk⟩ := hag
  obtain ⟨hr, hthr, hout⟩ := ag1 hk
  refine mb_aload_n dW_682 rfl ?_
  refine mb_aload_n dW_683 rfl ?_
  refine mb_SH (R' := mRH) (n := 2) (hpc := pic (nI c) fil I L ++ [eo f]) (hpc' := pic (nI c) fil' I' L' ++ [eo (hfo f r)]) (kx := hkx [(3, 1)] r) (hh := hhW_least) (tb' := tbW_least) (fun h => h ++ wRn (rp thr (nI c) J)) (fun q dT => (wRn (rp thr (nI c) J)).mapIdx (fun i x => (q (i + 68), mx_e q dT x))) [.ref 0, .ref 67] [] dW_684 rfl mT_G cwW_least iniW (by decide +kernel) ⟨by decide +kernel, by decide +kernel⟩ (by decide +kernel) vW_least (mT_3 (i := 31) rfl rfl) ⟨rfl, rfl, Nat.le_of_ble_eq_true rfl, Nat.le_of_ble_eq_true rfl⟩ rfl rfl (Nat.le_of_ble_eq_true rfl) (Nat.le_of_ble_eq_true rfl) (fun h hn q dT => wputH _ h (hn.trans (pic_len1 _ _ _ _ _)) q dT) rfl (by decide) (hh_least hc (Rel_sr R) hA hr (pic_len _ _ _ _)) ((pic_len1 _ _ _ _ _).trans (pic_len1 _ _ _ _ _).symm) ⟨hn, hz⟩ ?_
  refine mb_istore dW_687 (Nat.le_of_ble_eq_true rfl) rfl ?_
  refine mb_aload_n dW_689 rfl ?_
  refine mb_VL (R' := mR 4 96) (mc := 0) (ms := 0) (hpc := rp thr (nI c) J) (fun j => j + 68) (fun h => (pic (nI c) fil' I' L' ++ [eo (hfo f r)]) ++ wRn h) (fun q dT => mx_w q dT (pic (nI c) fil' I' L' ++ [eo (hfo f r)])) (fun _ _ => []) [] [] dW_690 rfl rfl mT_G jM_least_ok jM_least_v (mT_4 (i := 107) rfl rfl) ⟨rfl, rfl, Nat.le_of_ble_eq_true rfl, Nat.le_of_ble_eq_true rfl⟩ rfl rfl (fun _ _ => rfl) (Nat.le_of_ble_eq_true rfl) (Nat.le_of_ble_eq_true rfl) rfl rfl rfl (fun h _ q dT => wputM _ (pic_len1 _ _ _ _ _) h q dT) (cM_least  (Q := fun r h => r = .inl (some (.int q.1)) ∧ h = rp (q.2.1) (nI c) (q.2.2)) hc (Rel_fr R) hq ⟨rfl, rfl⟩) (fun Y h q => by cases q.1) (fun v h q => by obtain ⟨e1, rfl⟩ := q; cases e1; exact ⟨(rp_len _ _ _).trans (rp_len _ _ _).symm, Or.inr ⟨_, rfl⟩⟩) ⟨hn, hz⟩ (fun v h q => ?_)
  obtain ⟨e1, rfl⟩ := q
  cases e1
  refine mb_istore dW_693 (Nat.le_of_ble_eq_true rfl) rfl ?_
  refine mb_aload_n dW_695 rfl ?_
  refine mb_VL (R' := mR 0 0) (mc := 0) (ms := 0) (hpc := rp (q.2.1) (nI c) (q.2.2)) (fun j => j + 68) (fun h => (pic (nI c) fil' I' L' ++ [eo (hfo f r)]) ++ wRn h) (fun q dT => mx_w q dT (pic (nI c) fil' I' L' ++ [eo (hfo f r)])) (fun _ _ => []) [] [] dW_696 rfl rfl mT_G jM_thrown_ok jM_thrown_v (mT_4 (i := 12) rfl rfl) ⟨rfl, rfl, Nat.le_of_ble_eq_true rfl, Nat.le_of_ble_eq_true rfl⟩ rfl rfl (fun _ _ => rfl) (Nat.le_of_ble_eq_true rfl) (Nat.le_of_ble_eq_true rfl) rfl rfl rfl (fun h _ q dT => wputM _ (pic_len1 _ _ _ _ _) h q dT) (cM_thrown (Q := fun r h => r = .inl (some (.int (q.2.1))) ∧ h = rp (q.2.1) (nI c) (q.2.2)) ⟨rfl, rfl⟩) (fun Y h q => by cases q.1) (fun v h q => by obtain ⟨e1, rfl⟩ := q; cases e1; exact ⟨(rp_len _ _ _).trans (rp_len _ _ _).symm, Or.inr ⟨_, rfl⟩⟩) ⟨hn, hz⟩ (fun v h q => ?_)
  obtain ⟨e1, rfl⟩ := q
  cases e1
  refine mb_iload dW_699 rfl ?_
  refine mb_icmp_eq 706 dW_701 rfl (fun _ => ?_) (fun h9 => absurd hthr h9)
  refine mb_iload dW_706 rfl ?_
  have hend : wB LL xs (n + 1) (z + 6) 723 [.ref 1000, .ref 0, .ref 68, .ref 67, .int (nI i), .int (hkx [(3, 1)] r), .int (q.1)] [] (lP (pic (nI c) fil' I' L') (hfo f r) (rp (q.2.1) (nI c) (q.2.2))) := by
    refine mb_goto 973 dW_723 rfl ?_
    refine mb_drop 5 ?_
    refine mb_drop 6 ?_
    exact K _ _ _ _ _ _ _ R'
  refine mb_if_ne 723 dW_708 rfl (fun _ => hend) (fun h0 => ?_)
  refine mb_aload_n dW_711 rfl ?_
  refine mb_iconst (0) dW_712 (by decide) ?_
  refine mb_lald dW_713 (b := 67) (n := 1) (f := (hfo f r)) rfl (vp_in_nI (n := 0) (by decide) (by decide)) ?_
  refine mb_iload dW_714 rfl ?_
  refine mb_i2l dW_716 rfl ?_
  refine mb_lcmp dW_717 ?_
  exact mb_if_eq 723 dW_718 rfl (fun _ => hend) (fun h9 => absurd (lcmp_0 (hout h0 f)) h9)
theorem law_shared (R : Rel c I L J) (hi : i + 5 ≤ LL) (hLL : LL ≤ 2560) (hn : n + 1 ≤ 601024) (hz : z + 6 ≤ 7293034) (K : lawK LL xs (n + 1) (z + 6) i) : wB LL xs n z 726 (wls i) [] (lP (pic (nI c) fil I L) f (rp thr (nI c) J)) := by
  have hc := R.hc
  have hag := shared_agr (fil := fil) R
  rcases hA : aShr c fil I L with ⟨r, h2⟩
  have hag : gOn c h2 ((rShr c J).2.2) ∧ AgI [(3, 1)] r ((rShr c J).2.1) ((rShr c J).1) := by rw [hA] at hag; exact hag
  obtain ⟨⟨fil', I', L', rfl, R'⟩, hk⟩ := hag
  obtain ⟨hr, hthr, hout⟩ := ag1 hk
  refine mb_aload_n dW_726 rfl ?_
  refine mb_aload_n dW_727 rfl ?_
  refine mb_SH (R' := mRH) (n := 2) (hpc := pic (nI c) fil I L ++ [eo f]) (hpc' := pic (nI c) fil' I' L' ++ [eo (hfo f r)]) (kx := hkx [(3, 1)] r) (hh := hhW_shared) (tb' := tbW_shared) (fun h => h ++ wRn (rp thr (nI c) J)) (fun q dT => (wRn (rp thr (nI c) J)).mapIdx (fun i x => (q (i + 68), mx_e q dT x))) [.ref 0, .ref 67] [] dW_728 rfl mT_G cwW_shared iniW (by decide +kernel) ⟨by decide +kernel, by decide +kernel⟩ (by decide +kernel) vW_shared (mT_3 (i := 72) rfl rfl) ⟨rfl, rfl, Nat.le_of_ble_eq_true rfl, Nat.le_of_ble_eq_true rfl⟩ rfl rfl (Nat.le_of_ble_eq_true rfl) (Nat.le_of_ble_eq_true rfl) (fun h hn q dT => wputH _ h (hn.trans (pic_len1 _ _ _ _ _)) q dT) rfl (by decide) (hh_shared hc (Rel_sr R) hA hr (pic_len _ _ _ _)) ((pic_len1 _ _ _ _ _).trans (pic_len1 _ _ _ _ _).symm) ⟨hn, hz⟩ ?_
  refine mb_istore dW_731 (Nat.le_of_ble_eq_true rfl) rfl ?_
  refine mb_aload_n dW_733 rfl ?_
  refine mb_VL (R' := mR 3 70) (mc := 0) (ms := 0) (hpc := rp thr (nI c) J) (fun j => j + 68) (fun h => (pic (nI c) fil' I' L' ++ [eo (hfo f r)]) ++ wRn h) (fun q dT => mx_w q dT (pic (nI c) fil' I' L' ++ [eo (hfo f r)])) (fun _ _ => []) [] [] dW_734 rfl rfl mT_G jM_shared_ok jM_shared_v (mT_4 (i := 127) rfl rfl) ⟨rfl, rfl, Nat.le_of_ble_eq_true rfl, Nat.le_of_ble_eq_true rfl⟩ rfl rfl (fun _ _ => rfl) (Nat.le_of_ble_eq_true rfl) (Nat.le_of_ble_eq_true rfl) rfl rfl rfl (fun h _ q dT => wputM _ (pic_len1 _ _ _ _ _) h q dT) (cM_shared  (Q := fun r h => r = .inl (some (.int (rShr c J).1)) ∧ h = rp ((rShr c J).2.1) (nI c) ((rShr c J).2.2)) hc (Rel_fr R) ⟨rfl, rfl⟩) (fun Y h q => by cases q.1) (fun v h q => by obtain ⟨e1, rfl⟩ := q; cases e1; exact ⟨(rp_len _ _ _).trans (rp_len _ _ _).symm, Or.inr ⟨_, rfl⟩⟩) ⟨hn, hz⟩ (fun v h q => ?_)
  obtain ⟨e1, rfl⟩ := q
  cases e1
  refine mb_istore dW_737 (Nat.le_of_ble_eq_true rfl) rfl ?_
  refine mb_aload_n dW_739 rfl ?_
  refine mb_VL (R' := mR 0 0) (mc := 0) (ms := 0) (hpc := rp ((rShr c J).2.1) (nI c) ((rShr c J).2.2)) (fun j => j + 68) (fun h => (pic (nI c) fil' I' L' ++ [eo (hfo f r)]) ++ wRn h) (fun q dT => mx_w q dT (pic (nI c) fil' I' L' ++ [eo (hfo f r)])) (fun _ _ => []) [] [] dW_740 rfl rfl mT_G jM_thrown_ok jM_thrown_v (mT_4 (i := 12) rfl rfl) ⟨rfl, rfl, Nat.le_of_ble_eq_true rfl, Nat.le_of_ble_eq_true rfl⟩ rfl rfl (fun _ _ => rfl) (Nat.le_of_ble_eq_true rfl) (Nat.le_of_ble_eq_true rfl) rfl rfl rfl (fun h _ q dT => wputM _ (pic_len1 _ _ _ _ _) h q dT) (cM_thrown (Q := fun r h => r = .inl (some (.int ((rShr c J).2.1))) ∧ h = rp ((rShr c J).2.1) (nI c) ((rShr c J).2.2)) ⟨rfl, rfl⟩) (fun Y h q => by cases q.1) (fun v h q => by obtain ⟨e1, rfl⟩ := q; cases e1; exact ⟨(rp_len _ _ _).trans (rp_len _ _ _).symm, Or.inr ⟨_, rfl⟩⟩) ⟨hn, hz⟩ (fun v h q => ?_)
  obtain ⟨e1, rfl⟩ := q
  cases e1
  refine mb_iload dW_743 rfl ?_
  refine mb_icmp_eq 750 dW_745 rfl (fun _ => ?_) (fun h9 => absurd hthr h9)
  refine mb_iload dW_750 rfl ?_
  have hend : wB LL xs (n + 1) (z + 6) 767 [.ref 1000, .ref 0, .ref 68, .ref 67, .int (nI i), .int (hkx [(3, 1)] r), .int ((rShr c J).1)] [] (lP (pic (nI c) fil' I' L') (hfo f r) (rp ((rShr c J).2.1) (nI c) ((rShr c J).2.2))) := by
    refine mb_goto 973 dW_767 rfl ?_
    refine mb_drop 5 ?_
    refine mb_drop 6 ?_
    exact K _ _ _ _ _ _ _ R'
  refine mb_if_ne 767 dW_752 rfl (fun _ => hend) (fun h0 => ?_)
  refine mb_aload_n dW_755 rfl ?_
  refine mb_iconst (0) dW_756 (by decide) ?_
  refine mb_lald dW_757 (b := 67) (n := 1) (f := (hfo f r)) rfl (vp_in_nI (n := 0) (by decide) (by decide)) ?_
  refine mb_iload dW_758 rfl ?_
  refine mb_i2l dW_760 rfl ?_
  refine mb_lcmp dW_761 ?_
  exact mb_if_eq 767 dW_762 rfl (fun _ => hend) (fun h9 => absurd (lcmp_0 (hout h0 f)) h9)
theorem law_retime (R : Rel c I L J) (hi : i + 5 ≤ LL) (hLL : LL ≤ 2560) (hn : n + 1 ≤ 601024) (hz : z + 6 ≤ 7293034) (K : lawK LL xs (n + 1) (z + 6) i) : wB LL xs n z 770 (wls i) [] (lP (pic (nI c) fil I L) f (rp thr (nI c) J)) := by
  have hc := R.hc
  obtain ⟨q, hq, hag⟩ := retime_agr (fil := fil) R (wx xs i 1)
  rcases hA : aRet c fil I L (wx xs i 1) with ⟨r, h2⟩
  have hag : gOn c h2 (q.2.2) ∧ AgI [(3, 1), (0, 2)] r (q.2.1) (q.1) := by rw [hA] at hag; exact hag
  obtain ⟨⟨fil', I', L', rfl, R'⟩, hk⟩ := hag
  obtain ⟨hr, hthr, hout⟩ := ag2 (by decide) hk
  refine mb_aload_n dW_770 rfl ?_
  refine mb_aload_n dW_771 rfl ?_
  refine mb_iload dW_772 rfl ?_
  refine mb_iconst (1) dW_774 (by decide) ?_
  refine mb_iadd dW_775 ?_
  rw [ix_1]
  refine mb_sld rfl dW_776 (vp_in_nI (by omega) (by omega)) ?_
  refine mb_aload_n dW_777 rfl ?_
  refine mb_SH (R' := mRH) (n := 3) (hpc := pic (nI c) fil I L ++ [eo f]) (hpc' := pic (nI c) fil' I' L' ++ [eo (hfo f r)]) (kx := hkx [(3, 1), (0, 2)] r) (hh := hhW_retime) (tb' := tbW_retime) (fun h => h ++ wRn (rp thr (nI c) J)) (fun q dT => (wRn (rp thr (nI c) J)).mapIdx (fun i x => (q (i + 68), mx_e q dT x))) [.ref 0, .int (wx xs i 1), .ref 67] [] dW_778 rfl mT_G cwW_retime iniW (by decide +kernel) ⟨by decide +kernel, by decide +kernel⟩ (by decide +kernel) vW_retime (mT_3 (i := 84) rfl rfl) ⟨rfl, rfl, Nat.le_of_ble_eq_true rfl, Nat.le_of_ble_eq_true rfl⟩ rfl rfl (Nat.le_of_ble_eq_true rfl) (Nat.le_of_ble_eq_true rfl) (fun h hn q dT => wputH _ h (hn.trans (pic_len1 _ _ _ _ _)) q dT) rfl (by decide) (hh_retime hc (Rel_sr R) hA hr (pic_len _ _ _ _)) ((pic_len1 _ _ _ _ _).trans (pic_len1 _ _ _ _ _).symm) ⟨hn, hz⟩ ?_
  refine mb_istore dW_781 (Nat.le_of_ble_eq_true rfl) rfl ?_
  refine mb_aload_n dW_783 rfl ?_
  refine mb_aload_n dW_784 rfl ?_
  refine mb_iload dW_785 rfl ?_
  refine mb_iconst (1) dW_787 (by decide) ?_
  refine mb_iadd dW_788 ?_
  rw [ix_1]
  refine mb_sld rfl dW_789 (vp_in_nI (by omega) (by omega)) ?_
  refine mb_VL (R' := mR 4 96) (mc := 0) (ms := 0) (hpc := rp thr (nI c) J) (fun j => j + 68) (fun h => (pic (nI c) fil' I' L' ++ [eo (hfo f r)]) ++ wRn h) (fun q dT => mx_w q dT (pic (nI c) fil' I' L' ++ [eo (hfo f r)])) (fun _ _ => []) [.int (wx xs i 1)] [] dW_790 rfl rfl mT_G jM_retime_ok jM_retime_v (mT_4 (i := 131) rfl rfl) ⟨rfl, rfl, Nat.le_of_ble_eq_true rfl, Nat.le_of_ble_eq_true rfl⟩ rfl rfl (fun _ _ => rfl) (Nat.le_of_ble_eq_true rfl) (Nat.le_of_ble_eq_true rfl) rfl rfl rfl (fun h _ q dT => wputM _ (pic_len1 _ _ _ _ _) h q dT) (cM_retime (k := (wx xs i 1)) (Q := fun r h => r = .inl (some (.int q.1)) ∧ h = rp (q.2.1) (nI c) (q.2.2)) hc (Rel_fr R) hq ⟨rfl, rfl⟩) (fun Y h q => by cases q.1) (fun v h q => by obtain ⟨e1, rfl⟩ := q; cases e1; exact ⟨(rp_len _ _ _).trans (rp_len _ _ _).symm, Or.inr ⟨_, rfl⟩⟩) ⟨hn, hz⟩ (fun v h q => ?_)
  obtain ⟨e1, rfl⟩ := q
  cases e1
  refine mb_istore dW_793 (Nat.le_of_ble_eq_true rfl) rfl ?_
  refine mb_aload_n dW_795 rfl ?_
  refine mb_VL (R' := mR 0 0) (mc := 0) (ms := 0) (hpc := rp (q.2.1) (nI c) (q.2.2)) (fun j => j + 68) (fun h => (pic (nI c) fil' I' L' ++ [eo (hfo f r)]) ++ wRn h) (fun q dT => mx_w q dT (pic (nI c) fil' I' L' ++ [eo (hfo f r)])) (fun _ _ => []) [] [] dW_796 rfl rfl mT_G jM_thrown_ok jM_thrown_v (mT_4 (i := 12) rfl rfl) ⟨rfl, rfl, Nat.le_of_ble_eq_true rfl, Nat.le_of_ble_eq_true rfl⟩ rfl rfl (fun _ _ => rfl) (Nat.le_of_ble_eq_true rfl) (Nat.le_of_ble_eq_true rfl) rfl rfl rfl (fun h _ q dT => wputM _ (pic_len1 _ _ _ _ _) h q dT) (cM_thrown (Q := fun r h => r = .inl (some (.int (q.2.1))) ∧ h = rp (q.2.1) (nI c) (q.2.2)) ⟨rfl, rfl⟩) (fun Y h q => by cases q.1) (fun v h q => by obtain ⟨e1, rfl⟩ := q; cases e1; exact ⟨(rp_len _ _ _).trans (rp_len _ _ _).symm, Or.inr ⟨_, rfl⟩⟩) ⟨hn, hz⟩ (fun v h q => ?_)
  obtain ⟨e1, rfl⟩ := q
  cases e1
  refine mb_iload dW_799 rfl ?_
  refine mb_icmp_eq 806 dW_801 rfl (fun _ => ?_) (fun h9 => absurd hthr h9)
  refine mb_iload dW_806 rfl ?_
  have hend : wB LL xs (n + 1) (z + 6) 823 [.ref 1000, .ref 0, .ref 68, .ref 67, .int (nI i), .int (hkx [(3, 1), (0, 2)] r), .int (q.1)] [] (lP (pic (nI c) fil' I' L') (hfo f r) (rp (q.2.1) (nI c) (q.2.2))) := by
    refine mb_goto 973 dW_823 rfl ?_
    refine mb_drop 5 ?_
    refine mb_drop 6 ?_
    exact K _ _ _ _ _ _ _ R'
  refine mb_if_ne 823 dW_808 rfl (fun _ => hend) (fun h0 => ?_)
  refine mb_aload_n dW_811 rfl ?_
  refine mb_iconst (0) dW_812 (by decide) ?_
  refine mb_lald dW_813 (b := 67) (n := 1) (f := (hfo f r)) rfl (vp_in_nI (n := 0) (by decide) (by decide)) ?_
  refine mb_iload dW_814 rfl ?_
  refine mb_i2l dW_816 rfl ?_
  refine mb_lcmp dW_817 ?_
  exact mb_if_eq 823 dW_818 rfl (fun _ => hend) (fun h9 => absurd (lcmp_0 (hout h0 f)) h9)
theorem law_label (R : Rel c I L J) (hi : i + 5 ≤ LL) (hLL : LL ≤ 2560) (hn : n + 1 ≤ 601024) (hz : z + 6 ≤ 7293034) (K : lawK LL xs (n + 1) (z + 6) i) : wB LL xs n z 826 (wls i) [] (lP (pic (nI c) fil I L) f (rp thr (nI c) J)) := by
  have hc := R.hc
  have hag := label_agr (fil := fil) R (wx xs i 1)
  rcases hA : aLabel c fil I L (wx xs i 1) with ⟨r, h2⟩
  have hag : gOn c h2 (J) ∧ AgI [(2, 1)] r ((rLab c J (wx xs i 1)).2) ((rLab c J (wx xs i 1)).1) := by rw [hA] at hag; exact hag
  obtain ⟨⟨fil', I', L', rfl, R'⟩, hk⟩ := hag
  obtain ⟨hr, hthr, hout⟩ := ag1 hk
  refine mb_aload_n dW_826 rfl ?_
  refine mb_aload_n dW_827 rfl ?_
  refine mb_iload dW_828 rfl ?_
  refine mb_iconst (1) dW_830 (by decide) ?_
  refine mb_iadd dW_831 ?_
  rw [ix_1]
  refine mb_sld rfl dW_832 (vp_in_nI (by omega) (by omega)) ?_
  refine mb_aload_n dW_833 rfl ?_
  refine mb_SH (R' := mRH) (n := 3) (hpc := pic (nI c) fil I L ++ [eo f]) (hpc' := pic (nI c) fil' I' L' ++ [eo (hfo f r)]) (kx := hkx [(2, 1)] r) (hh := hhW_label) (tb' := tbW_label) (fun h => h ++ wRn (rp thr (nI c) J)) (fun q dT => (wRn (rp thr (nI c) J)).mapIdx (fun i x => (q (i + 68), mx_e q dT x))) [.ref 0, .int (wx xs i 1), .ref 67] [] dW_834 rfl mT_G cwW_label iniW (by decide +kernel) ⟨by decide +kernel, by decide +kernel⟩ (by decide +kernel) vW_label (mT_3 (i := 159) rfl rfl) ⟨rfl, rfl, Nat.le_of_ble_eq_true rfl, Nat.le_of_ble_eq_true rfl⟩ rfl rfl (Nat.le_of_ble_eq_true rfl) (Nat.le_of_ble_eq_true rfl) (fun h hn q dT => wputH _ h (hn.trans (pic_len1 _ _ _ _ _)) q dT) rfl (by decide) (hh_label hc hA hr (pic_len _ _ _ _)) ((pic_len1 _ _ _ _ _).trans (pic_len1 _ _ _ _ _).symm) ⟨hn, hz⟩ ?_
  refine mb_istore dW_837 (Nat.le_of_ble_eq_true rfl) rfl ?_
  refine mb_aload_n dW_839 rfl ?_
  refine mb_aload_n dW_840 rfl ?_
  refine mb_iload dW_841 rfl ?_
  refine mb_iconst (1) dW_843 (by decide) ?_
  refine mb_iadd dW_844 ?_
  rw [ix_1]
  refine mb_sld rfl dW_845 (vp_in_nI (by omega) (by omega)) ?_
  refine mb_VL (R' := mR 1 21) (mc := 0) (ms := 0) (hpc := rp thr (nI c) J) (fun j => j + 68) (fun h => (pic (nI c) fil' I' L' ++ [eo (hfo f r)]) ++ wRn h) (fun q dT => mx_w q dT (pic (nI c) fil' I' L' ++ [eo (hfo f r)])) (fun _ _ => []) [.int (wx xs i 1)] [] dW_846 rfl rfl mT_G jM_label_ok jM_label_v (mT_4 (i := 166) rfl rfl) ⟨rfl, rfl, Nat.le_of_ble_eq_true rfl, Nat.le_of_ble_eq_true rfl⟩ rfl rfl (fun _ _ => rfl) (Nat.le_of_ble_eq_true rfl) (Nat.le_of_ble_eq_true rfl) rfl rfl rfl (fun h _ q dT => wputM _ (pic_len1 _ _ _ _ _) h q dT) (cM_label (x := (wx xs i 1)) (Q := fun r h => r = .inl (some (.int (rLab c J (wx xs i 1)).1)) ∧ h = rp ((rLab c J (wx xs i 1)).2) (nI c) (J)) hc ⟨rfl, rfl⟩) (fun Y h q => by cases q.1) (fun v h q => by obtain ⟨e1, rfl⟩ := q; cases e1; exact ⟨(rp_len _ _ _).trans (rp_len _ _ _).symm, Or.inr ⟨_, rfl⟩⟩) ⟨hn, hz⟩ (fun v h q => ?_)
  obtain ⟨e1, rfl⟩ := q
  cases e1
  refine mb_istore dW_849 (Nat.le_of_ble_eq_true rfl) rfl ?_
  refine mb_aload_n dW_851 rfl ?_
  refine mb_VL (R' := mR 0 0) (mc := 0) (ms := 0) (hpc := rp ((rLab c J (wx xs i 1)).2) (nI c) (J)) (fun j => j + 68) (fun h => (pic (nI c) fil' I' L' ++ [eo (hfo f r)]) ++ wRn h) (fun q dT => mx_w q dT (pic (nI c) fil' I' L' ++ [eo (hfo f r)])) (fun _ _ => []) [] [] dW_852 rfl rfl mT_G jM_thrown_ok jM_thrown_v (mT_4 (i := 12) rfl rfl) ⟨rfl, rfl, Nat.le_of_ble_eq_true rfl, Nat.le_of_ble_eq_true rfl⟩ rfl rfl (fun _ _ => rfl) (Nat.le_of_ble_eq_true rfl) (Nat.le_of_ble_eq_true rfl) rfl rfl rfl (fun h _ q dT => wputM _ (pic_len1 _ _ _ _ _) h q dT) (cM_thrown (Q := fun r h => r = .inl (some (.int ((rLab c J (wx xs i 1)).2))) ∧ h = rp ((rLab c J (wx xs i 1)).2) (nI c) (J)) ⟨rfl, rfl⟩) (fun Y h q => by cases q.1) (fun v h q => by obtain ⟨e1, rfl⟩ := q; cases e1; exact ⟨(rp_len _ _ _).trans (rp_len _ _ _).symm, Or.inr ⟨_, rfl⟩⟩) ⟨hn, hz⟩ (fun v h q => ?_)
  obtain ⟨e1, rfl⟩ := q
  cases e1
  refine mb_iload dW_855 rfl ?_
  refine mb_icmp_eq 862 dW_857 rfl (fun _ => ?_) (fun h9 => absurd hthr h9)
  refine mb_iload dW_862 rfl ?_
  have hend : wB LL xs (n + 1) (z + 6) 879 [.ref 1000, .ref 0, .ref 68, .ref 67, .int (nI i), .int (hkx [(2, 1)] r), .int ((rLab c J (wx xs i 1)).1)] [] (lP (pic (nI c) fil' I' L') (hfo f r) (rp ((rLab c J (wx xs i 1)).2) (nI c) (J))) := by
    refine mb_goto 973 dW_879 rfl ?_
    refine mb_drop 5 ?_
    refine mb_drop 6 ?_
    exact K _ _ _ _ _ _ _ R'
  refine mb_if_ne 879 dW_864 rfl (fun _ => hend) (fun h0 => ?_)
  refine mb_aload_n dW_867 rfl ?_
  refine mb_iconst (0) dW_868 (by decide) ?_
  refine mb_lald dW_869 (b := 67) (n := 1) (f := (hfo f r)) rfl (vp_in_nI (n := 0) (by decide) (by decide)) ?_
  refine mb_iload dW_870 rfl ?_
  refine mb_i2l dW_872 rfl ?_
  refine mb_lcmp dW_873 ?_
  exact mb_if_eq 879 dW_874 rfl (fun _ => hend) (fun h9 => absurd (lcmp_0 (hout h0 f)) h9)
theorem law_tick (R : Rel c I L J) (hi : i + 5 ≤ LL) (hLL : LL ≤ 2560) (hn : n + 1 ≤ 601024) (hz : z + 6 ≤ 7293034) (K : lawK LL xs (n + 1) (z + 6) i) : wB LL xs n z 882 (wls i) [] (lP (pic (nI c) fil I L) f (rp thr (nI c) J)) := by
  have hc := R.hc
  have hag := tick_agr (fil := fil) R (wx xs i 1) (wx xs i 2) (wx xs i 3)
  rcases hA : aTick c fil I L (wx xs i 1) (wx xs i 2) (wx xs i 3) with ⟨r, h2⟩
  have hag : gOn c h2 ((rTick c J (wx xs i 1) (wx xs i 2) (wx xs i 3)).2.2) ∧ AgI [(3, 1), (0, 2)] r ((rTick c J (wx xs i 1) (wx xs i 2) (wx xs i 3)).2.1) ((rTick c J (wx xs i 1) (wx xs i 2) (wx xs i 3)).1) := by rw [hA] at hag; exact hag
  obtain ⟨⟨fil', I', L', rfl, R'⟩, hk⟩ := hag
  obtain ⟨hr, hthr, hout⟩ := ag2 (by decide) hk
  refine mb_aload_n dW_882 rfl ?_
  refine mb_aload_n dW_883 rfl ?_
  refine mb_iload dW_884 rfl ?_
  refine mb_iconst (1) dW_886 (by decide) ?_
  refine mb_iadd dW_887 ?_
  rw [ix_1]
  refine mb_sld rfl dW_888 (vp_in_nI (by omega) (by omega)) ?_
  refine mb_aload_n dW_889 rfl ?_
  refine mb_iload dW_890 rfl ?_
  refine mb_iconst (2) dW_892 (by decide) ?_
  refine mb_iadd dW_893 ?_
  rw [ix_2]
  refine mb_sld rfl dW_894 (vp_in_nI (by omega) (by omega)) ?_
  refine mb_aload_n dW_895 rfl ?_
  refine mb_iload dW_896 rfl ?_
  refine mb_iconst (3) dW_898 (by decide) ?_
  refine mb_iadd dW_899 ?_
  rw [ix_3]
  refine mb_sld rfl dW_900 (vp_in_nI (by omega) (by omega)) ?_
  refine mb_aload_n dW_901 rfl ?_
  refine mb_SH (R' := mRH) (n := 5) (hpc := pic (nI c) fil I L ++ [eo f]) (hpc' := pic (nI c) fil' I' L' ++ [eo (hfo f r)]) (kx := hkx [(3, 1), (0, 2)] r) (hh := hhW_tick) (tb' := tbW_tick) (fun h => h ++ wRn (rp thr (nI c) J)) (fun q dT => (wRn (rp thr (nI c) J)).mapIdx (fun i x => (q (i + 68), mx_e q dT x))) [.ref 0, .int (wx xs i 1), .int (wx xs i 2), .int (wx xs i 3), .ref 67] [] dW_902 rfl mT_G cwW_tick iniW (by decide +kernel) ⟨by decide +kernel, by decide +kernel⟩ (by decide +kernel) vW_tick (mT_3 (i := 166) rfl rfl) ⟨rfl, rfl, Nat.le_of_ble_eq_true rfl, Nat.le_of_ble_eq_true rfl⟩ rfl rfl (Nat.le_of_ble_eq_true rfl) (Nat.le_of_ble_eq_true rfl) (fun h hn q dT => wputH _ h (hn.trans (pic_len1 _ _ _ _ _)) q dT) rfl (by decide) (hh_tick hc (Rel_sr R) (Rel_hv R) hA hr (pic_len _ _ _ _)) ((pic_len1 _ _ _ _ _).trans (pic_len1 _ _ _ _ _).symm) ⟨hn, hz⟩ ?_
  refine mb_istore dW_905 (Nat.le_of_ble_eq_true rfl) rfl ?_
  refine mb_aload_n dW_907 rfl ?_
  refine mb_aload_n dW_908 rfl ?_
  refine mb_iload dW_909 rfl ?_
  refine mb_iconst (1) dW_911 (by decide) ?_
  refine mb_iadd dW_912 ?_
  rw [ix_1]
  refine mb_sld rfl dW_913 (vp_in_nI (by omega) (by omega)) ?_
  refine mb_aload_n dW_914 rfl ?_
  refine mb_iload dW_915 rfl ?_
  refine mb_iconst (2) dW_917 (by decide) ?_
  refine mb_iadd dW_918 ?_
  rw [ix_2]
  refine mb_sld rfl dW_919 (vp_in_nI (by omega) (by omega)) ?_
  refine mb_aload_n dW_920 rfl ?_
  refine mb_iload dW_921 rfl ?_
  refine mb_iconst (3) dW_923 (by decide) ?_
  refine mb_iadd dW_924 ?_
  rw [ix_3]
  refine mb_sld rfl dW_925 (vp_in_nI (by omega) (by omega)) ?_
  refine mb_VL (R' := mR 3 70) (mc := 0) (ms := 0) (hpc := rp thr (nI c) J) (fun j => j + 68) (fun h => (pic (nI c) fil' I' L' ++ [eo (hfo f r)]) ++ wRn h) (fun q dT => mx_w q dT (pic (nI c) fil' I' L' ++ [eo (hfo f r)])) (fun _ _ => []) [.int (wx xs i 1), .int (wx xs i 2), .int (wx xs i 3)] [] dW_926 rfl rfl mT_G jM_tick_ok jM_tick_v (mT_4 (i := 170) rfl rfl) ⟨rfl, rfl, Nat.le_of_ble_eq_true rfl, Nat.le_of_ble_eq_true rfl⟩ rfl rfl (fun _ _ => rfl) (Nat.le_of_ble_eq_true rfl) (Nat.le_of_ble_eq_true rfl) rfl rfl rfl (fun h _ q dT => wputM _ (pic_len1 _ _ _ _ _) h q dT) (cM_tick (a := (wx xs i 1)) (b := (wx xs i 2)) (d := (wx xs i 3)) (Q := fun r h => r = .inl (some (.int (rTick c J (wx xs i 1) (wx xs i 2) (wx xs i 3)).1)) ∧ h = rp ((rTick c J (wx xs i 1) (wx xs i 2) (wx xs i 3)).2.1) (nI c) ((rTick c J (wx xs i 1) (wx xs i 2) (wx xs i 3)).2.2)) hc (Rel_fr R) (Rel_rOk R) (Rel_tB R) ⟨rfl, rfl⟩) (fun Y h q => by cases q.1) (fun v h q => by obtain ⟨e1, rfl⟩ := q; cases e1; exact ⟨(rp_len _ _ _).trans (rp_len _ _ _).symm, Or.inr ⟨_, rfl⟩⟩) ⟨hn, hz⟩ (fun v h q => ?_)
  obtain ⟨e1, rfl⟩ := q
  cases e1
  refine mb_istore dW_929 (Nat.le_of_ble_eq_true rfl) rfl ?_
  refine mb_aload_n dW_931 rfl ?_
  refine mb_VL (R' := mR 0 0) (mc := 0) (ms := 0) (hpc := rp ((rTick c J (wx xs i 1) (wx xs i 2) (wx xs i 3)).2.1) (nI c) ((rTick c J (wx xs i 1) (wx xs i 2) (wx xs i 3)).2.2)) (fun j => j + 68) (fun h => (pic (nI c) fil' I' L' ++ [eo (hfo f r)]) ++ wRn h) (fun q dT => mx_w q dT (pic (nI c) fil' I' L' ++ [eo (hfo f r)])) (fun _ _ => []) [] [] dW_932 rfl rfl mT_G jM_thrown_ok jM_thrown_v (mT_4 (i := 12) rfl rfl) ⟨rfl, rfl, Nat.le_of_ble_eq_true rfl, Nat.le_of_ble_eq_true rfl⟩ rfl rfl (fun _ _ => rfl) (Nat.le_of_ble_eq_true rfl) (Nat.le_of_ble_eq_true rfl) rfl rfl rfl (fun h _ q dT => wputM _ (pic_len1 _ _ _ _ _) h q dT) (cM_thrown (Q := fun r h => r = .inl (some (.int ((rTick c J (wx xs i 1) (wx xs i 2) (wx xs i 3)).2.1))) ∧ h = rp ((rTick c J (wx xs i 1) (wx xs i 2) (wx xs i 3)).2.1) (nI c) ((rTick c J (wx xs i 1) (wx xs i 2) (wx xs i 3)).2.2)) ⟨rfl, rfl⟩) (fun Y h q => by cases q.1) (fun v h q => by obtain ⟨e1, rfl⟩ := q; cases e1; exact ⟨(rp_len _ _ _).trans (rp_len _ _ _).symm, Or.inr ⟨_, rfl⟩⟩) ⟨hn, hz⟩ (fun v h q => ?_)
  obtain ⟨e1, rfl⟩ := q
  cases e1
  refine mb_iload dW_935 rfl ?_
  refine mb_icmp_eq 942 dW_937 rfl (fun _ => ?_) (fun h9 => absurd hthr h9)
  refine mb_iload dW_942 rfl ?_
  have hend : wB LL xs (n + 1) (z + 6) 959 [.ref 1000, .ref 0, .ref 68, .ref 67, .int (nI i), .int (hkx [(3, 1), (0, 2)] r), .int ((rTick c J (wx xs i 1) (wx xs i 2) (wx xs i 3)).1)] [] (lP (pic (nI c) fil' I' L') (hfo f r) (rp ((rTick c J (wx xs i 1) (wx xs i 2) (wx xs i 3)).2.1) (nI c) ((rTick c J (wx xs i 1) (wx xs i 2) (wx xs i 3)).2.2))) := by
    refine mb_goto 973 dW_959 rfl ?_
    refine mb_drop 5 ?_
    refine mb_drop 6 ?_
    exact K _ _ _ _ _ _ _ R'
  refine mb_if_ne 959 dW_944 rfl (fun _ => hend) (fun h0 => ?_)
  refine mb_aload_n dW_947 rfl ?_
  refine mb_iconst (0) dW_948 (by decide) ?_
  refine mb_lald dW_949 (b := 67) (n := 1) (f := (hfo f r)) rfl (vp_in_nI (n := 0) (by decide) (by decide)) ?_
  refine mb_iload dW_950 rfl ?_
  refine mb_i2l dW_952 rfl ?_
  refine mb_lcmp dW_953 ?_
  exact mb_if_eq 959 dW_954 rfl (fun _ => hend) (fun h9 => absurd (lcmp_0 (hout h0 f)) h9)
theorem law_restart (R : Rel c I L J) (hi : i + 5 ≤ LL) (hLL : LL ≤ 2560) (hn : n + 1 ≤ 601024) (hz : z + 6 ≤ 7293034) (K : lawK LL xs (n + 1) (z + 6) i) : wB LL xs n z 962 (wls i) [] (lP (pic (nI c) fil I L) f (rp thr (nI c) J)) := by
  have hc := R.hc
  refine mb_aload_n dW_962 rfl ?_
  refine mb_VL (R' := mR 3 102) (mc := 0) (ms := 0) (hpc := pic (nI c) fil I L) (fun j => j) (fun h => (h ++ [eo f]) ++ wRn (rp thr (nI c) J)) (fun _ _ => []) (fun q dT => (q 67, mx_e q dT (eo f)) :: (wRn (rp thr (nI c) J)).mapIdx (fun i x => (q (i + 68), mx_e q dT x))) [] [] dW_963 rfl rfl mT_G jA_restart_ok jA_restart_v (mT_2 (i := 1) rfl rfl) ⟨rfl, rfl, Nat.le_of_ble_eq_true rfl, Nat.le_of_ble_eq_true rfl⟩ rfl rfl (fun _ _ => rfl) (Nat.le_of_ble_eq_true rfl) (Nat.le_of_ble_eq_true rfl) rfl rfl rfl (fun h hn q dT => wputX _ _ h hn q dT) (cA_restart (Q := fun r h => r = .inl (none) ∧ h = pic (nI c) fil (begI I) (begL L)) ⟨rfl, rfl⟩) (fun Y h q => by cases q.1) (fun v h q => by obtain ⟨e1, rfl⟩ := q; cases e1; exact ⟨(pic_len _ _ _ _).trans (pic_len _ _ _ _).symm, Or.inl rfl⟩) ⟨Nat.le_of_succ_le hn, Nat.le_trans (Nat.le_add_right z 6) hz⟩ (fun v h q => ?_)
  obtain ⟨e1, rfl⟩ := q
  cases e1
  refine mb_aload_n dW_966 rfl ?_
  refine mb_VL (R' := mR 1 21) (mc := 0) (ms := 0) (hpc := rp thr (nI c) J) (fun j => j + 68) (fun h => (pic (nI c) fil (begI I) (begL L) ++ [eo f]) ++ wRn h) (fun q dT => mx_w q dT (pic (nI c) fil (begI I) (begL L) ++ [eo f])) (fun _ _ => []) [] [] dW_967 rfl rfl mT_G jM_restart_ok jM_restart_v (mT_4 (i := 178) rfl rfl) ⟨rfl, rfl, Nat.le_of_ble_eq_true rfl, Nat.le_of_ble_eq_true rfl⟩ rfl rfl (fun _ _ => rfl) (Nat.le_of_ble_eq_true rfl) (Nat.le_of_ble_eq_true rfl) rfl rfl rfl (fun h _ q dT => wputM _ (pic_len1 _ _ _ _ _) h q dT) (cM_restart (Q := fun r h => r = .inl (none) ∧ h = rp 0 (nI c) (rbeg J)) ⟨rfl, rfl⟩) (fun Y h q => by cases q.1) (fun v h q => by obtain ⟨e1, rfl⟩ := q; cases e1; exact ⟨(rp_len _ _ _).trans (rp_len _ _ _).symm, Or.inl rfl⟩) ⟨Nat.le_of_succ_le hn, Nat.le_trans (Nat.le_add_right z 6) hz⟩ (fun v h q => ?_)
  obtain ⟨e1, rfl⟩ := q
  cases e1
  refine mb_goto 973 dW_970 rfl ?_
  refine mb_widen (n := n + 1) (z := z + 6) (Nat.le_add_right _ _) (Nat.le_add_right _ _) ?_
  exact K _ _ _ _ _ _ _ (Rel_beg R)
end LAWC
