/-! The law's loop and its beginning. -/
theorem mb_law {X : Nat × (Nat → Int32)} {qi : Bool} {n z k : Nat} {ls : List Value} {hp : List va_E} (hd : decode code k = .ok (.ireturn, 1)) (hn : n ≤ 601024) (hz : z ≤ 7293034) : mx_B mT mCl jW room_1 [] (some X) lawZ qi n z k ls [.int 1] hp := by
  intro l p e s m args below meth c D dT q A H locs lsA hC hl hq hP hD hS
  have hx : mx_X (some X) q A s args := hC.2.2.2.2.2.2.2.2.2.2.2.2.2
  obtain ⟨-, -, -, hA, rfl⟩ := hx
  refine va_forget (fun r hr => hA _ (hS.2.2 r hr)) ?_
  refine W.widen hn hz ?_
  exact lw_ret hC.1 hC.2.1 hC.2.2.1 hC.2.2.2.2.2.2.2.1 hd
theorem and15 (x : Int32) : ∃ k, k < 16 ∧ x &&& 15 = nI k := by
  refine ⟨(x.toBitVec &&& 15#32).toNat, ?_, ?_⟩
  · rw [BitVec.toNat_and]
    exact Nat.and_lt_two_pow _ (show 15 < 2 ^ 4 by decide)
  · apply Int32.toBitVec_inj.mp
    show x.toBitVec &&& 15#32 = BitVec.ofNat 32 (x.toBitVec &&& 15#32).toNat
    rw [BitVec.ofNat_toNat, BitVec.setWidth_eq]
theorem law_switch {c : Nat} {fil thr : Int32} {I : Nat → Nat → Int32} {L : Nat → Nat → Int64} {J : Nat → Nat → Int32} {f : Nat → Int64} {LL n z i : Nat} {xs : Nat → Int32} (R : Rel c I L J) (hi : i + 5 ≤ LL) (hLL : LL ≤ 2560) (hn : n + 1 ≤ 601024) (hz : z + 6 ≤ 7293034) (K : lawK LL xs (n + 1) (z + 6) i) (v : Nat) (hv : v < 16) : wB LL xs n z 39 (wls i) [.int (nI v)] (lP (pic (nI c) fil I L) f (rp thr (nI c) J)) := by
  match v, hv with
  | 0, _ => exact mb_tableIn 116 dW_39 (by decide) (by decide) rfl rfl (law_gate R hi hLL hn hz K)
  | 1, _ => exact mb_tableIn 184 dW_39 (by decide) (by decide) rfl rfl (law_wire R hi hLL hn hz K)
  | 2, _ => exact mb_tableIn 256 dW_39 (by decide) (by decide) rfl rfl (law_hold R hi hLL hn hz K)
  | 3, _ => exact mb_tableIn 328 dW_39 (by decide) (by decide) rfl rfl (law_held R hi hLL hn hz K)
  | 4, _ => exact mb_tableIn 408 dW_39 (by decide) (by decide) rfl rfl (law_registers R hi hLL hn hz K)
  | 5, _ => exact mb_tableIn 476 dW_39 (by decide) (by decide) rfl rfl (law_gates R hi hLL hn hz K)
  | 6, _ => exact mb_tableIn 489 dW_39 (by decide) (by decide) rfl rfl (law_sound R hi hLL hn hz K)
  | 7, _ => exact mb_tableIn 502 dW_39 (by decide) (by decide) rfl rfl (law_period R hi hLL hn hz K)
  | 8, _ => exact mb_tableIn 546 dW_39 (by decide) (by decide) rfl rfl (law_weight R hi hLL hn hz K)
  | 9, _ => exact mb_tableIn 614 dW_39 (by decide) (by decide) rfl rfl (law_delay R hi hLL hn hz K)
  | 10, _ => exact mb_tableIn 682 dW_39 (by decide) (by decide) rfl rfl (law_least R hi hLL hn hz K)
  | 11, _ => exact mb_tableIn 726 dW_39 (by decide) (by decide) rfl rfl (law_shared R hi hLL hn hz K)
  | 12, _ => exact mb_tableIn 770 dW_39 (by decide) (by decide) rfl rfl (law_retime R hi hLL hn hz K)
  | 13, _ => exact mb_tableIn 826 dW_39 (by decide) (by decide) rfl rfl (law_label R hi hLL hn hz K)
  | 14, _ => exact mb_tableIn 882 dW_39 (by decide) (by decide) rfl rfl (law_tick R hi hLL hn hz K)
  | 15, _ => exact mb_tableIn 962 dW_39 (by decide) (by decide) rfl rfl (law_restart R hi hLL hn hz K)
  | v + 16, h => exact absurd h (by omega)
theorem law_loop {LL : Nat} {xs : Nat → Int32} (hLL : LL ≤ 2560) : ∀ (r j c : Nat) (fil : Int32) (I : Nat → Nat → Int32) (L : Nat → Nat → Int64) (thr : Int32) (J : Nat → Nat → Int32) (f : Nat → Int64), j + r = LL / 5 → Rel c I L J → wB LL xs (82 + j) (4454 + 6 * j) 23 (wls (5 * j)) [] (lP (pic (nI c) fil I L) f (rp thr (nI c) J)) := by
  have e5 : (5 : Int32).toInt = 5 := rfl
  have hlen : (nI LL - 5).toInt = (LL : Int) - 5 := by
    have h1 : (nI LL).toInt = LL := nI_toInt (by omega)
    rw [sub_t (by rw [h1, e5]; omega) (by rw [h1, e5]; omega), h1, e5]
  intro r
  induction r with
  | zero =>
    intro j c fil I L thr J f hj R
    have h1 : (nI (5 * j)).toInt = ((5 * j : Nat) : Int) := nI_toInt (by omega)
    refine mb_iload dW_23 rfl ?_
    refine mb_aload_n dW_25 rfl ?_
    refine mb_slen rfl dW_26 ?_
    refine mb_iconst (5) dW_27 (by decide) ?_
    refine mb_isub dW_28 ?_
    refine mb_icmp_gt 979 dW_29 rfl (fun _ => ?_) (fun h => absurd (show nI LL - 5 < nI (5 * j) by rw [Int32.lt_iff_toInt_lt, hlen, h1]; omega) h)
    refine mb_iconst (1) dW_979 (by decide) ?_
    exact mb_law dW_980 (by omega) (by omega)
  | succ r ih =>
    intro j c fil I L thr J f hj R
    have h1 : (nI (5 * j)).toInt = ((5 * j : Nat) : Int) := nI_toInt (by omega)
    refine mb_iload dW_23 rfl ?_
    refine mb_aload_n dW_25 rfl ?_
    refine mb_slen rfl dW_26 ?_
    refine mb_iconst (5) dW_27 (by decide) ?_
    refine mb_isub dW_28 ?_
    refine mb_icmp_gt 979 dW_29 rfl (fun h => absurd h (show ¬ nI LL - 5 < nI (5 * j) by rw [Int32.lt_iff_toInt_lt, hlen, h1]; omega)) (fun _ => ?_)
    refine mb_aload_n dW_32 rfl ?_
    refine mb_iload dW_33 rfl ?_
    refine mb_sld rfl dW_35 (vp_in_nI (by omega) (by omega)) ?_
    refine mb_bipush (15) dW_36 (by decide) ?_
    refine mb_iand dW_38 ?_
    obtain ⟨v, hv, ev⟩ := and15 (xs (nI (5 * j)).toNatClampNeg)
    rw [ev]
    refine law_switch R (by omega) hLL (by omega) (by omega) (fun c fil I L thr J f R => ?_) v hv
    refine mb_iinc dW_973 rfl (y := nI (5 * (j + 1))) (by rw [show Int32.ofInt 5 = nI 5 from rfl, nI_add]; rfl) (Nat.le_of_ble_eq_true rfl) rfl ?_
    refine mb_goto 23 dW_976 rfl ?_
    exact ih (j + 1) c fil I L thr J f (by omega) R
/-- a new class and a new reference are tied -/
theorem Rel_0 : Rel 0 (fun _ _ => 0) (fun _ _ => 0) (fun _ _ => 0) := ⟨Nat.zero_le _, fun _ _ => rfl, fun _ _ => ⟨0, by omega, rfl⟩, fun _ _ => rfl, fun _ _ => ⟨0, by omega, rfl⟩, fun _ _ => rfl, fun _ _ => Or.inr ⟨0, Nat.le_refl _, rfl⟩, fun _ _ _ => rfl, fun g h1 h2 => by omega, fun _ _ => rfl, fun _ _ => ⟨0, by omega, rfl⟩, fun _ _ _ => rfl, fun _ _ => rfl, fun w k _ h => absurd h (Nat.not_lt_zero _), fun w k _ h => absurd h (Nat.not_lt_zero _), fun _ _ _ => rfl⟩
/-- where the law's numbers stood as the cells were made -/
def piL (i : Nat) : Nat := ([0, 1, 5, 8, 11, 14, 43, 59, 61, 66, 2, 3, 4, 6, 7, 9, 10, 12, 13, 15, 29, 44, 45, 60, 62, 65, 16, 17, 18, 19, 20, 21, 22, 23, 24, 25, 26, 27, 28, 30, 31, 32, 33, 34, 35, 36, 37, 38, 39, 40, 41, 42, 46, 47, 48, 49, 50, 51, 52, 53, 54, 55, 56, 57, 58, 63, 64, 81, 67, 68, 69, 70, 71, 72, 73, 74, 75, 76, 77, 78, 79, 80] : List Nat).getD i i
theorem piL_inj : ∀ i, i < 82 → ∀ j, j < 82 → piL i = piL j → i = j := by decide +kernel
theorem eG_ren {π : Nat → Nat} {a b : Nat} (h : ∀ i, i < 13 → π (a + i) = b + i) : mx_e π (fun t => t) (eG a) = eG b := by
  show (Sum.inl ((3 : Nat), (13, .inr (.inr (.inr (.inr (fun i => (if i < 13 then some (a + i) else none).map π)))))) : va_E) = _
  have e : (fun i => (if i < 13 then some (a + i) else none).map π) = (fun i => if i < 13 then some (b + i) else none) := by
    funext i
    by_cases hi : i < 13
    · rw [if_pos hi, if_pos hi]
      show some (π (a + i)) = _
      rw [h i hi]
    · rw [if_neg hi, if_neg hi]
      rfl
  rw [e]
abbrev csL : List va_E := [.inr (0, [.ref 1, .ref 5, .ref 8, .ref 11, .ref 14, .ref 43, .ref 59, .ref 61, .ref 66]), .inr (1, [.int 0, .ref 2, .ref 3, .ref 4]), eI 13 (fun _ => 0), eI 13 (fun _ => 0), eI 27 (fun _ => 0), .inr (2, [.ref 6, .ref 7]), eI 27 (fun _ => 0), eV (fun _ => 0), .inr (2, [.ref 9, .ref 10]), eI 27 (fun _ => 0), eV (fun _ => 0), .inr (3, [.ref 12, .ref 13, .int 0]), eI 12 (fun _ => 0), eZ 13 (fun _ => 0), .inr (4, [.ref 15, .ref 29]), eG 16, eI 13 (fun _ => 0), eI 13 (fun _ => 0), eI 13 (fun _ => 0), eI 13 (fun _ => 0), eI 13 (fun _ => 0), eI 13 (fun _ => 0), eI 13 (fun _ => 0), eI 13 (fun _ => 0), eI 13 (fun _ => 0), eI 13 (fun _ => 0), eI 13 (fun _ => 0), eI 13 (fun _ => 0), eI 13 (fun _ => 0), eG 30, eI 13 (fun _ => 0), eI 13 (fun _ => 0), eI 13 (fun _ => 0), eI 13 (fun _ => 0), eI 13 (fun _ => 0), eI 13 (fun _ => 0), eI 13 (fun _ => 0), eI 13 (fun _ => 0), eI 13 (fun _ => 0), eI 13 (fun _ => 0), eI 13 (fun _ => 0), eI 13 (fun _ => 0), eI 13 (fun _ => 0), .inr (5, [.ref 44, .ref 45]), eI 13 (fun _ => 0), eG 46, eI 13 (fun _ => 0), eI 13 (fun _ => 0), eI 13 (fun _ => 0), eI 13 (fun _ => 0), eI 13 (fun _ => 0), eI 13 (fun _ => 0), eI 13 (fun _ => 0), eI 13 (fun _ => 0), eI 13 (fun _ => 0), eI 13 (fun _ => 0), eI 13 (fun _ => 0), eI 13 (fun _ => 0), eI 13 (fun _ => 0), .inr (6, [.ref 60]), eI 13 (fun _ => 0), .inr (7, [.ref 62, .ref 65]), .inr (2, [.ref 63, .ref 64]), eI 27 (fun _ => 0), eV (fun _ => 0), eI 16 (fun _ => 0), eI 13 (fun _ => 0), .inr (8, [.int 0, .int 0, .ref 68, .ref 69, .ref 70, .ref 71, .ref 72, .ref 73, .ref 74, .ref 75, .ref 76, .ref 77, .ref 78, .ref 79, .ref 80]), eI 13 (fun _ => 0), eI 13 (fun _ => 0), eI 27 (fun _ => 0), eI 27 (fun _ => 0), eI 1080 (fun _ => 0), eI 1080 (fun _ => 0), eI 1080 (fun _ => 0), eI 27 (fun _ => 0), eI 13 (fun _ => 0), eI 13 (fun _ => 0), eI 13 (fun _ => 0), eI 169 (fun _ => 0), eI 13 (fun _ => 0), eo (fun _ => 0)]
theorem piL_same : ∀ (i : Nat) (x : va_E), (lP (pic (nI 0) 0 (fun _ _ => 0) (fun _ _ => 0)) (fun _ => 0) (rp 0 (nI 0) (fun _ _ => 0)))[i]? = some x → csL[piL i]? = some (mx_e piL (fun t => t) x) := by
  intro i x h
  have hi : i < 82 := (List.getElem?_eq_some_iff.mp h).1
  match i, hi, h with
  | 0, _, h => cases h; rfl
  | 1, _, h => cases h; rfl
  | 2, _, h => cases h; rfl
  | 3, _, h => cases h; rfl
  | 4, _, h => cases h; rfl
  | 5, _, h => cases h; rfl
  | 6, _, h => cases h; rfl
  | 7, _, h => cases h; rfl
  | 8, _, h => cases h; rfl
  | 9, _, h => cases h; rfl
  | 10, _, h => cases h; rfl
  | 11, _, h => cases h; rfl
  | 12, _, h => cases h; rfl
  | 13, _, h => cases h; rfl
  | 14, _, h => cases h; rfl
  | 15, _, h => cases h; rfl
  | 16, _, h => cases h; rfl
  | 17, _, h => cases h; rfl
  | 18, _, h => cases h; rfl
  | 19, _, h => cases h; exact (congrArg some (eG_ren (π := piL) (a := 26) (b := 16) (by decide))).symm
  | 20, _, h => cases h; exact (congrArg some (eG_ren (π := piL) (a := 39) (b := 30) (by decide))).symm
  | 21, _, h => cases h; rfl
  | 22, _, h => cases h; exact (congrArg some (eG_ren (π := piL) (a := 52) (b := 46) (by decide))).symm
  | 23, _, h => cases h; rfl
  | 24, _, h => cases h; rfl
  | 25, _, h => cases h; rfl
  | 26, _, h => cases h; rfl
  | 27, _, h => cases h; rfl
  | 28, _, h => cases h; rfl
  | 29, _, h => cases h; rfl
  | 30, _, h => cases h; rfl
  | 31, _, h => cases h; rfl
  | 32, _, h => cases h; rfl
  | 33, _, h => cases h; rfl
  | 34, _, h => cases h; rfl
  | 35, _, h => cases h; rfl
  | 36, _, h => cases h; rfl
  | 37, _, h => cases h; rfl
  | 38, _, h => cases h; rfl
  | 39, _, h => cases h; rfl
  | 40, _, h => cases h; rfl
  | 41, _, h => cases h; rfl
  | 42, _, h => cases h; rfl
  | 43, _, h => cases h; rfl
  | 44, _, h => cases h; rfl
  | 45, _, h => cases h; rfl
  | 46, _, h => cases h; rfl
  | 47, _, h => cases h; rfl
  | 48, _, h => cases h; rfl
  | 49, _, h => cases h; rfl
  | 50, _, h => cases h; rfl
  | 51, _, h => cases h; rfl
  | 52, _, h => cases h; rfl
  | 53, _, h => cases h; rfl
  | 54, _, h => cases h; rfl
  | 55, _, h => cases h; rfl
  | 56, _, h => cases h; rfl
  | 57, _, h => cases h; rfl
  | 58, _, h => cases h; rfl
  | 59, _, h => cases h; rfl
  | 60, _, h => cases h; rfl
  | 61, _, h => cases h; rfl
  | 62, _, h => cases h; rfl
  | 63, _, h => cases h; rfl
  | 64, _, h => cases h; rfl
  | 65, _, h => cases h; rfl
  | 66, _, h => cases h; rfl
  | 67, _, h => cases h; rfl
  | 68, _, h => cases h; rfl
  | 69, _, h => cases h; rfl
  | 70, _, h => cases h; rfl
  | 71, _, h => cases h; rfl
  | 72, _, h => cases h; rfl
  | 73, _, h => cases h; rfl
  | 74, _, h => cases h; rfl
  | 75, _, h => cases h; rfl
  | 76, _, h => cases h; rfl
  | 77, _, h => cases h; rfl
  | 78, _, h => cases h; rfl
  | 79, _, h => cases h; rfl
  | 80, _, h => cases h; rfl
  | 81, _, h => cases h; rfl
  | i + 82, hi, _ => exact absurd hi (by omega)
theorem law_pre {LL : Nat} {xs : Nat → Int32} (hLL : LL ≤ 2560) : mx_B mT mCl jW room_1 [] (some (LL, xs)) lawZ true 0 0 0 [.ref 1000, .retAddr 0, .retAddr 0, .retAddr 0, .retAddr 0, .retAddr 0, .retAddr 0] [] [] := by
  refine mb_new (C := "MovedRegisters") (F := F_A) (N := 9) (ci := 0) (fs := [.null, .null, .null, .null, .null, .null, .null, .null, .null]) t_A dW_0 rfl fw_A t_A_ok (mT_1 (i := 20) rfl rfl) (mT_1 (i := 21) rfl rfl) (mT_1 (i := 1) rfl rfl) (fun q j hj => match j, hj with | 0, _ => rfl | 1, _ => rfl | 2, _ => rfl | 3, _ => rfl | 4, _ => rfl | 5, _ => rfl | 6, _ => rfl | 7, _ => rfl | 8, _ => rfl | j + 9, h => absurd h (by omega)) (Nat.le_of_ble_eq_true rfl) (Nat.le_of_ble_eq_true rfl) (Nat.le_of_ble_eq_true rfl) ?_
  refine mb_eqs rfl rfl rfl (show _ = cs0 from rfl) ?_
  refine mb_dup dW_3 rfl ?_
  refine mb_init (R' := { frames := 3, cells := 66, slots := 861, locals := 52 }) (mc := 66) (ms := 861) (hp' := cs54) dW_4 mT_G jA_init_ok rfl (mT_1 (i := 23) rfl rfl) (Or.inl (mT_1 (i := 22) rfl rfl)) ⟨rfl, rfl, Nat.le_of_ble_eq_true rfl, Nat.le_of_ble_eq_true rfl⟩ rfl (Nat.le_of_ble_eq_true rfl) (Nat.le_of_ble_eq_true rfl) ⟨Nat.le_of_ble_eq_true rfl, Nat.le_of_ble_eq_true rfl⟩ ci_A9 ?_
  refine mb_astore_n dW_7 (Nat.le_of_ble_eq_true rfl) rfl ?_
  refine mb_new (C := "MovedRegistersModel") (F := F_M) (N := 15) (ci := 8) (fs := [.int 0, .int 0, .null, .null, .null, .null, .null, .null, .null, .null, .null, .null, .null, .null, .null]) t_M dW_8 rfl fw_M t_M_ok (mT_3 (i := 200) rfl rfl) (mT_3 (i := 201) rfl rfl) (mT_1 (i := 9) rfl rfl) (fun q j hj => match j, hj with | 0, _ => rfl | 1, _ => rfl | 2, _ => rfl | 3, _ => rfl | 4, _ => rfl | 5, _ => rfl | 6, _ => rfl | 7, _ => rfl | 8, _ => rfl | 9, _ => rfl | 10, _ => rfl | 11, _ => rfl | 12, _ => rfl | 13, _ => rfl | 14, _ => rfl | j + 15, h => absurd h (by omega)) (Nat.le_of_ble_eq_true rfl) (Nat.le_of_ble_eq_true rfl) (Nat.le_of_ble_eq_true rfl) ?_
  refine mb_eqs rfl rfl rfl (show _ = cs55 from rfl) ?_
  refine mb_dup dW_11 rfl ?_
  refine mb_init (R' := { frames := 1, cells := 13, slots := 3568, locals := 12 }) (mc := 13) (ms := 3568) (hp' := cs81) dW_12 mT_G jM_init_ok rfl (mT_3 (i := 203) rfl rfl) (Or.inl (mT_3 (i := 202) rfl rfl)) ⟨rfl, rfl, Nat.le_of_ble_eq_true rfl, Nat.le_of_ble_eq_true rfl⟩ rfl (Nat.le_of_ble_eq_true rfl) (Nat.le_of_ble_eq_true rfl) ⟨Nat.le_of_ble_eq_true rfl, Nat.le_of_ble_eq_true rfl⟩ ci_M10 ?_
  refine mb_astore_n dW_15 (Nat.le_of_ble_eq_true rfl) rfl ?_
  refine mb_iconst (1) dW_16 (by decide) ?_
  refine mb_newa (t := 1) (N := 1) (x := (1, .inr (.inl (fun _ => 0)))) (.long) dW_17 rfl (mT_1 (i := 74) rfl rfl) (fun _ => rfl) (fun _ _ h => h) (fun _ _ => rfl) (by decide) rfl (by decide) (Nat.le_of_ble_eq_true rfl) (Nat.le_of_ble_eq_true rfl) (Nat.le_of_ble_eq_true rfl) ?_
  refine mb_eqs rfl rfl rfl (show _ = csL from rfl) ?_
  refine mb_astore_n dW_19 (Nat.le_of_ble_eq_true rfl) rfl ?_
  refine mb_iconst (0) dW_20 (by decide) ?_
  refine mb_istore dW_21 (Nat.le_of_ble_eq_true rfl) rfl ?_
  exact mb_ren (ls := wls 0) (st := []) (hp2 := lP (pic (nI 0) 0 (fun _ _ => 0) (fun _ _ => 0)) (fun _ => 0) (rp 0 (nI 0) (fun _ _ => 0))) piL rfl (fun i j hi hj e => piL_inj i hi j hj e) piL_same (fun _ _ _ _ _ _ _ _ _ h => h) (law_loop hLL (LL / 5) 0 0 0 _ _ 0 _ _ (Nat.zero_add _) Rel_0)
