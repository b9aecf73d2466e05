/-! The reference: input, tick. -/
def rIn (f : Nat → Int32) (x a b d : Int32) : Int32 := if ¬ x = -1 then (if ¬ x = -2 then (if ¬ x = -3 then f x.toNatClampNeg else d) else b) else a
def rOk (x : Int32) : Prop := ¬ x = -1 → ¬ x = -2 → ¬ x = -3 → vp_in x 13
theorem cM_input {thr cnt : Int32} {I : Nat → Nat → Int32} {Q : mx_O → List va_E → Prop} {x a b d : Int32} (hx : rOk x) (hQ : Q (.inl (some (.int (rIn (I 13) x a b d)))) (rp thr cnt I)) : mx_W mx_K mT mCl jM_input (mR 0 0) 0 [.ref 0, .int x, .int a, .int b, .int d] [] (rp thr cnt I) Q := by
  unfold rIn at hQ
  refine mx_iload_n dM_input_0 rfl ?_
  refine mx_iconst (-1) dM_input_1 (by decide) ?_
  refine mx_icmp_ne 9 dM_input_2 rfl (fun h2 => ?_) (fun h2 => ?_)
  · refine mx_iload_n dM_input_9 rfl ?_
    refine mx_bipush (-2) dM_input_10 (by decide) ?_
    refine mx_icmp_ne 19 dM_input_12 rfl (fun h12 => ?_) (fun h12 => ?_)
    · refine mx_iload_n dM_input_19 rfl ?_
      refine mx_bipush (-3) dM_input_20 (by decide) ?_
      refine mx_icmp_ne 30 dM_input_22 rfl (fun h22 => ?_) (fun h22 => ?_)
      · refine mx_aload_n dM_input_30 rfl ?_
        refine mx_get 8 14 dM_input_31 fgM_46 rfl rfl ?_
        refine mx_iload_n dM_input_34 rfl ?_
        refine mx_iald dM_input_35 rfl (hx h2 h12 h22) ?_
        refine mx_iret dM_input_36 rfl rfl ?_
        first
          | (rw [if_pos h2, if_pos h12, if_pos h22] at hQ; exact hQ)
          | (rw [if_pos h2, if_pos h12, if_neg (fun q => q h22)] at hQ; exact hQ)
          | (rw [if_pos h2, if_neg (fun q => q h12)] at hQ; exact hQ)
          | (rw [if_neg (fun q => q h2)] at hQ; exact hQ)
      · refine mx_iload dM_input_25 rfl ?_
        refine mx_goto 36 dM_input_27 rfl ?_
        refine mx_iret dM_input_36 rfl rfl ?_
        first
          | (rw [if_pos h2, if_pos h12, if_pos h22] at hQ; exact hQ)
          | (rw [if_pos h2, if_pos h12, if_neg (fun q => q h22)] at hQ; exact hQ)
          | (rw [if_pos h2, if_neg (fun q => q h12)] at hQ; exact hQ)
          | (rw [if_neg (fun q => q h2)] at hQ; exact hQ)
    · refine mx_iload_n dM_input_15 rfl ?_
      refine mx_goto 36 dM_input_16 rfl ?_
      refine mx_iret dM_input_36 rfl rfl ?_
      first
        | (rw [if_pos h2, if_pos h12, if_pos h22] at hQ; exact hQ)
        | (rw [if_pos h2, if_pos h12, if_neg (fun q => q h22)] at hQ; exact hQ)
        | (rw [if_pos h2, if_neg (fun q => q h12)] at hQ; exact hQ)
        | (rw [if_neg (fun q => q h2)] at hQ; exact hQ)
  · refine mx_iload_n dM_input_5 rfl ?_
    refine mx_goto 36 dM_input_6 rfl ?_
    refine mx_iret dM_input_36 rfl rfl ?_
    first
      | (rw [if_pos h2, if_pos h12, if_pos h22] at hQ; exact hQ)
      | (rw [if_pos h2, if_pos h12, if_neg (fun q => q h22)] at hQ; exact hQ)
      | (rw [if_pos h2, if_neg (fun q => q h12)] at hQ; exact hQ)
      | (rw [if_neg (fun q => q h2)] at hQ; exact hQ)
def rTw (J : Nat → Nat → Int32) (f : Nat → Int32) (a b d : Int32) (w : Nat) : Int32 := if J 4 w ≤ 0 then rIn f (J 3 w) a b d else J 6 (40 * w)
def rTg (J : Nat → Nat → Int32) (a b d : Int32) (u : Nat) (f : Nat → Int32) : Nat → Int32 := upd f (u + 1) (rMade (J 1 (u + 1)) (rTw J f a b d (2 * u)) (rTw J f a b d (if pn (J 1) (u + 1) = 2 then 2 * u + 1 else 2 * u)))
def rTr (c : Nat) (J : Nat → Nat → Int32) (a b d : Int32) (_ : Nat) (f : Nat → Int32) : Nat → Int32 := lp (rTg J a b d) c f
/-- the gates' answers -/
def rTF (c : Nat) (J : Nat → Nat → Int32) (a b d : Int32) : Nat → Int32 := lp (rTr c J a b d) c (lp (rF1 2) c (J 13))
def rTv (J : Nat → Nat → Int32) (F : Nat → Int32) (a b d : Int32) (w : Nat) : Int32 := if ¬ J 3 w = 0 then rTw J F a b d w else 3
def rSh (J : Nat → Nat → Int32) (F : Nat → Int32) (a b d : Int32) (i k : Nat) (R : Nat → Int32) : Nat → Int32 := upd R (40 * i + k) (if (J 4 i).toNatClampNeg ≤ k + 1 then rIn F (J 3 i) a b d else R (40 * i + k + 1))
def rTS (J : Nat → Nat → Int32) (F : Nat → Int32) (a b d : Int32) (i : Nat) (R : Nat → Int32) : Nat → Int32 := lp (rSh J F a b d i) (J 4 i).toNatClampNeg R
def rAns (J : Nat → Nat → Int32) (F : Nat → Int32) (a b d : Int32) : Int32 := 4 * (4 * (4 * 0 + rTv J F a b d 26) + rTv J F a b d 25) + rTv J F a b d 24
def rTJ (c : Nat) (J : Nat → Nat → Int32) (a b d : Int32) : Nat → Nat → Int32 := upI (upI J 13 (rTF c J a b d)) 6 (lp (rTS J (rTF c J a b d) a b d) 27 (J 6))
def rFits (a b d : Int32) : Bool := decide (¬ a < 0 ∧ ¬ 2 < a ∧ ¬ b < 0 ∧ ¬ 2 < b ∧ ¬ d < 0 ∧ ¬ 2 < d)
def rTick (c : Nat) (I : Nat → Nat → Int32) (a b d : Int32) : rR3 := if rSnd c I = true then (if rFits a b d = true then (rAns (rSnI c I) (rTF c (rSnI c I) a b d) a b d, 0, rTJ c (rSnI c I) a b d) else (0, 2, rSnI c I)) else (0, 1, rSnI c I)
theorem cM_tick {c : Nat} {thr : Int32} {I : Nat → Nat → Int32} {Q : mx_O → List va_E → Prop} (hc : c ≤ 12) (hfr : ∀ w, w < 27 → I 3 w ≤ 12) (hin : ∀ w, w < 27 → rOk (I 3 w)) (hmn : tB 40 (I 4)) {a b d : Int32} (hQ : Q (.inl (some (.int (rTick c I a b d).1))) (rp (rTick c I a b d).2.1 (nI c) (rTick c I a b d).2.2)) : mx_W mx_K mT mCl jM_tick (mR 3 70) 0 [.ref 0, .int a, .int b, .int d, .retAddr 0, .retAddr 0, .retAddr 0, .retAddr 0, .retAddr 0, .retAddr 0, .retAddr 0] [] (rp thr (nI c) I) Q := by
  have hmain : ∀ (ft : Int32) (J : Nat → Nat → Int32), (∀ w, w < 27 → rOk (J 3 w)) → tB 40 (J 4) → Q (.inl (some (.int (rAns J (rTF c J a b d) a b d)))) (rp 0 (nI c) (rTJ c J a b d)) → mx_W mx_K mT mCl jM_tick (mR 3 70) 68 [.ref 0, .int a, .int b, .int d, .int (ft), .retAddr 0, .retAddr 0, .retAddr 0, .retAddr 0, .retAddr 0, .retAddr 0] [] (rp 0 (nI c) J) Q := by
    intro ft J hin hmn hq
    unfold rTJ at hq
    have s1 : ∀ (x : Int32) (i : Nat) (R : Nat → Int32), i < 27 → mx_W mx_K mT mCl jM_tick (mR 3 70) 435 [.ref 0, .int a, .int b, .int d, .int (ft), .int (x), .int (nI i), .int (nI (J 4 i).toNatClampNeg), .retAddr 0, .retAddr 0, .retAddr 0] [] (rp 0 (nI c) (upI (upI J 13 (rTF c J a b d)) 6 (rTS J (rTF c J a b d) a b d i R))) Q → ∀ k, k ≤ (J 4 i).toNatClampNeg → mx_W mx_K mT mCl jM_tick (mR 3 70) 358 [.ref 0, .int a, .int b, .int d, .int (ft), .int (x), .int (nI i), .int (nI k), .retAddr 0, .retAddr 0, .retAddr 0] [] (rp 0 (nI c) (upI (upI J 13 (rTF c J a b d)) 6 (lp (rSh J (rTF c J a b d) a b d i) k R))) Q := by
      intro x i R hi hk
      obtain ⟨m, hm, em⟩ := hmn i hi
      have ec : (J 4 i).toNatClampNeg = m := by rw [em, nI_clamp (by omega)]
      have hk2 := hk
      rw [ec] at hk
      refine lp_down ?_ ?_
      · rw [ec]
        refine mx_iload dM_tick_358 rfl ?_
        refine mx_aload_n dM_tick_360 rfl ?_
        refine mx_get 8 5 dM_tick_361 fgM_19 rfl rfl ?_
        refine mx_iload dM_tick_364 rfl ?_
        refine mx_iald dM_tick_366 rfl (vp_in_nI (by omega) (by decide)) ?_
        rw [nI_clamp (by omega), upI_ne _ _ (by decide), upI_ne _ _ (by decide), em]
        refine mx_icmp_ge 435 dM_tick_367 rfl (fun h367 => ?_) (fun h367 => ?_)
        rotate_left
        · exact absurd (nI_le (Nat.le_refl m) (by omega)) h367
        unfold rTS at hk
        rw [ec] at hk
        exact hk
      · intro k hkm ih
        have ih : mx_W mx_K mT mCl jM_tick (mR 3 70) 358 [.ref 0, .int a, .int b, .int d, .int (ft), .int (x), .int (nI i), .int (nI (k + 1)), .retAddr 0, .retAddr 0, .retAddr 0] [] (rp 0 (nI c) (upI (upI J 13 (rTF c J a b d)) 6 (rSh J (rTF c J a b d) a b d i k (lp (rSh J (rTF c J a b d) a b d i) k R)))) Q := ih
        generalize lp (rSh J (rTF c J a b d) a b d i) k R = R at ih ⊢
        generalize (rTF c J a b d) = F at ih ⊢
        unfold rSh at ih
        rw [ec] at ih hkm
        refine mx_iload dM_tick_358 rfl ?_
        refine mx_aload_n dM_tick_360 rfl ?_
        refine mx_get 8 5 dM_tick_361 fgM_19 rfl rfl ?_
        refine mx_iload dM_tick_364 rfl ?_
        refine mx_iald dM_tick_366 rfl (vp_in_nI (by omega) (by decide)) ?_
        rw [nI_clamp (by omega), upI_ne _ _ (by decide), upI_ne _ _ (by decide), em]
        refine mx_icmp_ge 435 dM_tick_367 rfl (fun h367 => ?_) (fun h367 => ?_)
        · exact absurd h367 (nI_ge (by omega) (by omega))
        refine mx_aload_n dM_tick_370 rfl ?_
        refine mx_get 8 7 dM_tick_371 fgM_25 rfl rfl ?_
        refine mx_bipush (40) dM_tick_374 (by decide) ?_
        refine mx_iload dM_tick_376 rfl ?_
        refine mx_imul dM_tick_378 ?_
        refine mx_iload dM_tick_379 rfl ?_
        refine mx_iadd dM_tick_381 ?_
        rw [show (40 : Int32) = nI 40 from rfl, pk_mul, nI_add]
        refine mx_iload dM_tick_382 rfl ?_
        refine mx_iconst (1) dM_tick_384 (by decide) ?_
        refine mx_iadd dM_tick_385 ?_
        rw [← nI_succ]
        refine mx_aload_n dM_tick_386 rfl ?_
        refine mx_get 8 5 dM_tick_387 fgM_19 rfl rfl ?_
        refine mx_iload dM_tick_390 rfl ?_
        refine mx_iald dM_tick_392 rfl (vp_in_nI (by omega) (by decide)) ?_
        rw [nI_clamp (by omega), upI_ne _ _ (by decide), upI_ne _ _ (by decide), em]
        refine mx_icmp_ge 414 dM_tick_393 rfl (fun h393 => ?_) (fun h393 => ?_)
        · refine mx_aload_n dM_tick_414 rfl ?_
          refine mx_aload_n dM_tick_415 rfl ?_
          refine mx_get 8 4 dM_tick_416 fgM_16 rfl rfl ?_
          refine mx_iload dM_tick_419 rfl ?_
          refine mx_iald dM_tick_421 rfl (vp_in_nI (by omega) (by decide)) ?_
          rw [nI_clamp (by omega), upI_ne _ _ (by decide), upI_ne _ _ (by decide)]
          refine mx_iload_n dM_tick_422 rfl ?_
          refine mx_iload_n dM_tick_423 rfl ?_
          refine mx_iload_n dM_tick_424 rfl ?_
          refine mx_V1 (R' := (mR 0 0)) [_, _, _, _] _ dM_tick_425 rfl mT_G jM_input_ok jM_input_v lkM_140 ⟨rfl, rfl, Nat.le_of_ble_eq_true rfl, Nat.le_of_ble_eq_true rfl⟩ rfl rfl (Nat.le_of_ble_eq_true rfl) (Nat.le_of_ble_eq_true rfl) rfl rfl rfl (fun Qc qc => cM_input (hin i hi) qc) ?_
          rw [upI_ne _ _ (by decide), upI_self]
          refine mx_iast dM_tick_428 rfl (vp_in_nI (by omega) (by decide)) ?_
          first
            | rw [if_neg (fun e => h393 (nI_le e (by omega)))] at ih
            | rw [if_pos (Nat.le_of_not_lt (fun e => absurd h393 (nI_ge e (by omega))))] at ih
          rw [nI_clamp (by omega)]
          refine mx_eqs rfl rfl rfl (rp_6 _) ?_
          rw [upI_self, upI_upI]
          refine mx_iinc dM_tick_429 rfl (mx_inc _) (Nat.le_of_ble_eq_true rfl) rfl ?_
          refine mx_goto 358 dM_tick_432 rfl ?_
          exact ih
        · refine mx_aload_n dM_tick_396 rfl ?_
          refine mx_get 8 7 dM_tick_397 fgM_25 rfl rfl ?_
          refine mx_bipush (40) dM_tick_400 (by decide) ?_
          refine mx_iload dM_tick_402 rfl ?_
          refine mx_imul dM_tick_404 ?_
          refine mx_iload dM_tick_405 rfl ?_
          refine mx_iadd dM_tick_407 ?_
          rw [show (40 : Int32) = nI 40 from rfl, pk_mul, nI_add]
          refine mx_iconst (1) dM_tick_408 (by decide) ?_
          refine mx_iadd dM_tick_409 ?_
          rw [← nI_succ]
          refine mx_iald dM_tick_410 rfl (vp_in_nI (by omega) (by decide)) ?_
          rw [nI_clamp (by omega), upI_self]
          refine mx_goto 428 dM_tick_411 rfl ?_
          refine mx_iast dM_tick_428 rfl (vp_in_nI (by omega) (by decide)) ?_
          first
            | rw [if_neg (fun e => h393 (nI_le e (by omega)))] at ih
            | rw [if_pos (Nat.le_of_not_lt (fun e => absurd h393 (nI_ge e (by omega))))] at ih
          rw [nI_clamp (by omega)]
          refine mx_eqs rfl rfl rfl (rp_6 _) ?_
          rw [upI_self, upI_upI]
          refine mx_iinc dM_tick_429 rfl (mx_inc _) (Nat.le_of_ble_eq_true rfl) rfl ?_
          refine mx_goto 358 dM_tick_432 rfl ?_
          exact ih
    have s2 : ∀ x : Int32, Q (.inl (some (.int x))) (rp 0 (nI c) (upI (upI J 13 (rTF c J a b d)) 6 (lp (rTS J (rTF c J a b d) a b d) 27 (J 6)))) → ∀ i, i ≤ 27 → mx_W mx_K mT mCl jM_tick (mR 3 70) 348 [.ref 0, .int a, .int b, .int d, .int (ft), .int (x), .int (nI i), .retAddr 0, .retAddr 0, .retAddr 0, .retAddr 0] [] (rp 0 (nI c) (upI (upI J 13 (rTF c J a b d)) 6 (lp (rTS J (rTF c J a b d) a b d) i (J 6)))) Q := by
      intro x hq
      refine lp_down ?_ ?_
      · refine mx_iload dM_tick_348 rfl ?_
        refine mx_bipush (27) dM_tick_350 (by decide) ?_
        refine mx_icmp_ge 441 dM_tick_352 rfl (fun h352 => ?_) (fun h352 => ?_)
        rotate_left
        · exact absurd (show (27 : Int32) ≤ nI 27 by decide) h352
        refine mx_iload dM_tick_441 rfl ?_
        refine mx_iret dM_tick_443 rfl rfl ?_
        exact hq
      · intro i hi ih
        refine mx_iload dM_tick_348 rfl ?_
        refine mx_bipush (27) dM_tick_350 (by decide) ?_
        refine mx_icmp_ge 441 dM_tick_352 rfl (fun h352 => ?_) (fun h352 => ?_)
        · exact absurd h352 (nI_ge (b := 27) hi (by decide))
        refine mx_iconst (0) dM_tick_355 (by decide) ?_
        refine mx_istore dM_tick_356 (Nat.le_of_ble_eq_true rfl) rfl ?_
        refine s1 x i _ hi ?_ 0 (Nat.zero_le _)
        refine mx_iinc dM_tick_435 rfl (mx_inc _) (Nat.le_of_ble_eq_true rfl) rfl ?_
        refine mx_goto 348 dM_tick_438 rfl ?_
        refine mx_drop 7 ?_
        exact ih
    have a1 : ∀ (x : Int32) (m : Nat), m < 3 → mx_W mx_K mT mCl jM_tick (mR 3 70) 264 [.ref 0, .int a, .int b, .int d, .int (ft), .int (4 * x + rTv J (rTF c J a b d) a b d (24 + m)), .int (nI m), .retAddr 0, .retAddr 0, .retAddr 0, .retAddr 0] [] (rp 0 (nI c) (upI J 13 ((rTF c J a b d)))) Q → mx_W mx_K mT mCl jM_tick (mR 3 70) 264 [.ref 0, .int a, .int b, .int d, .int (ft), .int (x), .int (nI (m + 1)), .retAddr 0, .retAddr 0, .retAddr 0, .retAddr 0] [] (rp 0 (nI c) (upI J 13 ((rTF c J a b d)))) Q := by
      intro x m hm hk
      generalize (rTF c J a b d) = F at hk ⊢
      unfold rTv rTw at hk
      refine mx_iload dM_tick_264 rfl ?_
      refine mx_iconst (1) dM_tick_266 (by decide) ?_
      refine mx_icmp_lt 345 dM_tick_267 rfl (fun h267 => ?_) (fun h267 => ?_)
      · exact absurd h267 (nI_nlt (b := 1) (by omega) (by omega))
      refine mx_bipush (23) dM_tick_270 (by decide) ?_
      refine mx_iload dM_tick_272 rfl ?_
      refine mx_iadd dM_tick_274 ?_
      rw [show (23 : Int32) = nI 23 from rfl, nI_add, show 23 + (m + 1) = 24 + m from by omega]
      refine mx_istore dM_tick_275 (Nat.le_of_ble_eq_true rfl) rfl ?_
      refine mx_aload_n dM_tick_277 rfl ?_
      refine mx_get 8 4 dM_tick_278 fgM_16 rfl rfl ?_
      refine mx_iload dM_tick_281 rfl ?_
      refine mx_iald dM_tick_283 rfl (vp_in_nI (by omega) (by decide)) ?_
      rw [nI_clamp (by omega), upI_ne _ _ (by decide)]
      refine mx_if_ne 291 dM_tick_284 rfl (fun h284 => ?_) (fun h284 => ?_)
      · refine mx_aload_n dM_tick_291 rfl ?_
        refine mx_get 8 5 dM_tick_292 fgM_19 rfl rfl ?_
        refine mx_iload dM_tick_295 rfl ?_
        refine mx_iald dM_tick_297 rfl (vp_in_nI (by omega) (by decide)) ?_
        rw [nI_clamp (by omega), upI_ne _ _ (by decide)]
        refine mx_if_le 314 dM_tick_298 rfl (fun h298 => ?_) (fun h298 => ?_)
        · refine mx_aload_n dM_tick_314 rfl ?_
          refine mx_aload_n dM_tick_315 rfl ?_
          refine mx_get 8 4 dM_tick_316 fgM_16 rfl rfl ?_
          refine mx_iload dM_tick_319 rfl ?_
          refine mx_iald dM_tick_321 rfl (vp_in_nI (by omega) (by decide)) ?_
          rw [nI_clamp (by omega), upI_ne _ _ (by decide)]
          refine mx_iload_n dM_tick_322 rfl ?_
          refine mx_iload_n dM_tick_323 rfl ?_
          refine mx_iload_n dM_tick_324 rfl ?_
          refine mx_V1 (R' := (mR 0 0)) [_, _, _, _] _ dM_tick_325 rfl mT_G jM_input_ok jM_input_v lkM_140 ⟨rfl, rfl, Nat.le_of_ble_eq_true rfl, Nat.le_of_ble_eq_true rfl⟩ rfl rfl (Nat.le_of_ble_eq_true rfl) (Nat.le_of_ble_eq_true rfl) rfl rfl rfl (fun Qc qc => cM_input (hin (24 + m) (by omega)) qc) ?_
          rw [upI_self]
          refine mx_istore dM_tick_328 (Nat.le_of_ble_eq_true rfl) rfl ?_
          refine mx_iconst (4) dM_tick_330 (by decide) ?_
          refine mx_iload dM_tick_331 rfl ?_
          refine mx_imul dM_tick_333 ?_
          refine mx_iload dM_tick_334 rfl ?_
          refine mx_iadd dM_tick_336 ?_
          refine mx_istore dM_tick_337 (Nat.le_of_ble_eq_true rfl) rfl ?_
          first
            | rw [if_pos h284, if_pos h298] at hk
            | rw [if_pos h284, if_neg h298] at hk
            | rw [if_neg (fun q => q h284)] at hk
          refine mx_drop 7 ?_
          refine mx_drop 8 ?_
          refine mx_iinc dM_tick_339 rfl (mx_dec _) (Nat.le_of_ble_eq_true rfl) rfl ?_
          refine mx_goto 264 dM_tick_342 rfl ?_
          exact hk
        · refine mx_aload_n dM_tick_301 rfl ?_
          refine mx_get 8 7 dM_tick_302 fgM_25 rfl rfl ?_
          refine mx_bipush (40) dM_tick_305 (by decide) ?_
          refine mx_iload dM_tick_307 rfl ?_
          refine mx_imul dM_tick_309 ?_
          rw [show (40 : Int32) = nI 40 from rfl, pk_mul]
          refine mx_iald dM_tick_310 rfl (vp_in_nI (by omega) (by decide)) ?_
          rw [nI_clamp (by omega), upI_ne _ _ (by decide)]
          refine mx_goto 328 dM_tick_311 rfl ?_
          refine mx_istore dM_tick_328 (Nat.le_of_ble_eq_true rfl) rfl ?_
          refine mx_iconst (4) dM_tick_330 (by decide) ?_
          refine mx_iload dM_tick_331 rfl ?_
          refine mx_imul dM_tick_333 ?_
          refine mx_iload dM_tick_334 rfl ?_
          refine mx_iadd dM_tick_336 ?_
          refine mx_istore dM_tick_337 (Nat.le_of_ble_eq_true rfl) rfl ?_
          first
            | rw [if_pos h284, if_pos h298] at hk
            | rw [if_pos h284, if_neg h298] at hk
            | rw [if_neg (fun q => q h284)] at hk
          refine mx_drop 7 ?_
          refine mx_drop 8 ?_
          refine mx_iinc dM_tick_339 rfl (mx_dec _) (Nat.le_of_ble_eq_true rfl) rfl ?_
          refine mx_goto 264 dM_tick_342 rfl ?_
          exact hk
      · refine mx_iconst (3) dM_tick_287 (by decide) ?_
        refine mx_goto 328 dM_tick_288 rfl ?_
        refine mx_istore dM_tick_328 (Nat.le_of_ble_eq_true rfl) rfl ?_
        refine mx_iconst (4) dM_tick_330 (by decide) ?_
        refine mx_iload dM_tick_331 rfl ?_
        refine mx_imul dM_tick_333 ?_
        refine mx_iload dM_tick_334 rfl ?_
        refine mx_iadd dM_tick_336 ?_
        refine mx_istore dM_tick_337 (Nat.le_of_ble_eq_true rfl) rfl ?_
        first
          | rw [if_pos h284, if_pos h298] at hk
          | rw [if_pos h284, if_neg h298] at hk
          | rw [if_neg (fun q => q h284)] at hk
        refine mx_drop 7 ?_
        refine mx_drop 8 ?_
        refine mx_iinc dM_tick_339 rfl (mx_dec _) (Nat.le_of_ble_eq_true rfl) rfl ?_
        refine mx_goto 264 dM_tick_342 rfl ?_
        exact hk
    have a0 : mx_W mx_K mT mCl jM_tick (mR 3 70) 258 [.ref 0, .int a, .int b, .int d, .int (ft), .retAddr 0, .retAddr 0, .retAddr 0, .retAddr 0, .retAddr 0, .retAddr 0] [] (rp 0 (nI c) (upI J 13 ((rTF c J a b d)))) Q := by
      refine mx_iconst (0) dM_tick_258 (by decide) ?_
      refine mx_istore dM_tick_259 (Nat.le_of_ble_eq_true rfl) rfl ?_
      refine mx_iconst (3) dM_tick_261 (by decide) ?_
      refine mx_istore dM_tick_262 (Nat.le_of_ble_eq_true rfl) rfl ?_
      refine a1 0 2 (by decide) ?_
      refine a1 _ 1 (by decide) ?_
      refine a1 _ 0 (by decide) ?_
      refine mx_iload dM_tick_264 rfl ?_
      refine mx_iconst (1) dM_tick_266 (by decide) ?_
      refine mx_icmp_lt 345 dM_tick_267 rfl (fun h267 => ?_) (fun h267 => ?_)
      rotate_left
      · exact absurd (show nI 0 < 1 by decide) h267
      refine mx_iconst (0) dM_tick_345 (by decide) ?_
      refine mx_istore dM_tick_346 (Nat.le_of_ble_eq_true rfl) rfl ?_
      refine mx_eqs rfl rfl rfl ?_ (s2 _ hq 0 (Nat.zero_le _))
      rw [lp_zero]
      show rp 0 (nI c) (upI (upI J 13 (rTF c J a b d)) 6 (J 6)) = rp 0 (nI c) (upI J 13 (rTF c J a b d))
      rw [show upI (upI J 13 (rTF c J a b d)) 6 (J 6) = upI J 13 (rTF c J a b d) from upI_own (upI J 13 (rTF c J a b d)) 6]
    have g1 : ∀ (r : Nat) (f : Nat → Int32), mx_W mx_K mT mCl jM_tick (mR 3 70) 252 [.ref 0, .int a, .int b, .int d, .int (ft), .int (nI r), .int (nI (c + 1)), .retAddr 0, .retAddr 0, .retAddr 0, .retAddr 0] [] (rp 0 (nI c) (upI J 13 (rTr c J a b d r f))) Q → ∀ u, u ≤ c → mx_W mx_K mT mCl jM_tick (mR 3 70) 109 [.ref 0, .int a, .int b, .int d, .int (ft), .int (nI r), .int (nI (u + 1)), .retAddr 0, .retAddr 0, .retAddr 0, .retAddr 0] [] (rp 0 (nI c) (upI J 13 (lp (rTg J a b d) u f))) Q := by
      intro r f hk
      refine lp_down ?_ ?_
      · refine mx_iload dM_tick_109 rfl ?_
        refine mx_aload_n dM_tick_111 rfl ?_
        refine mx_get 8 1 dM_tick_112 fgM_53 rfl rfl ?_
        refine mx_icmp_gt 252 dM_tick_115 rfl (fun h115 => ?_) (fun h115 => ?_)
        rotate_left
        · exact absurd (nI_lt (Nat.lt_succ_self c) (by omega)) h115
        exact hk
      · intro u hu ih
        have ih : mx_W mx_K mT mCl jM_tick (mR 3 70) 109 [.ref 0, .int a, .int b, .int d, .int (ft), .int (nI r), .int (nI (u + 1 + 1)), .retAddr 0, .retAddr 0, .retAddr 0, .retAddr 0] [] (rp 0 (nI c) (upI J 13 (rTg J a b d u (lp (rTg J a b d) u f)))) Q := ih
        generalize lp (rTg J a b d) u f = f at ih ⊢
        have hp := pn_le (J 1) (u + 1)
        unfold rTg at ih
        have g2 : ∀ (x : Int32) (w : Nat), w < 27 → mx_W mx_K mT mCl jM_tick (mR 3 70) 109 [.ref 0, .int a, .int b, .int d, .int (ft), .int (nI r), .int (nI (u + 1 + 1)), .retAddr 0, .retAddr 0, .retAddr 0, .retAddr 0] [] (rp 0 (nI c) (upI J 13 (upd f (u + 1) (rMade (J 1 (u + 1)) x (rTw J f a b d w))))) Q → mx_W mx_K mT mCl jM_tick (mR 3 70) 186 [.ref 0, .int a, .int b, .int d, .int (ft), .int (nI r), .int (nI (u + 1)), .int (nI (2 * u)), .int (x), .int (nI w), .retAddr 0] [] (rp 0 (nI c) (upI J 13 (f))) Q := by
          intro x w hw hk
          unfold rTw at hk
          refine mx_aload_n dM_tick_186 rfl ?_
          refine mx_get 8 5 dM_tick_187 fgM_19 rfl rfl ?_
          refine mx_iload dM_tick_190 rfl ?_
          refine mx_iald dM_tick_192 rfl (vp_in_nI (by omega) (by decide)) ?_
          rw [nI_clamp (by omega), upI_ne _ _ (by decide)]
          refine mx_if_le 209 dM_tick_193 rfl (fun h193 => ?_) (fun h193 => ?_)
          · refine mx_aload_n dM_tick_209 rfl ?_
            refine mx_aload_n dM_tick_210 rfl ?_
            refine mx_get 8 4 dM_tick_211 fgM_16 rfl rfl ?_
            refine mx_iload dM_tick_214 rfl ?_
            refine mx_iald dM_tick_216 rfl (vp_in_nI (by omega) (by decide)) ?_
            rw [nI_clamp (by omega), upI_ne _ _ (by decide)]
            refine mx_iload_n dM_tick_217 rfl ?_
            refine mx_iload_n dM_tick_218 rfl ?_
            refine mx_iload_n dM_tick_219 rfl ?_
            refine mx_V1 (R' := (mR 0 0)) [_, _, _, _] _ dM_tick_220 rfl mT_G jM_input_ok jM_input_v lkM_140 ⟨rfl, rfl, Nat.le_of_ble_eq_true rfl, Nat.le_of_ble_eq_true rfl⟩ rfl rfl (Nat.le_of_ble_eq_true rfl) (Nat.le_of_ble_eq_true rfl) rfl rfl rfl (fun Qc qc => cM_input (hin w hw) qc) ?_
            rw [upI_self]
            refine mx_istore dM_tick_223 (Nat.le_of_ble_eq_true rfl) rfl ?_
            refine mx_aload_n dM_tick_225 rfl ?_
            refine mx_get 8 14 dM_tick_226 fgM_46 rfl rfl ?_
            refine mx_iload dM_tick_229 rfl ?_
            refine mx_aload_n dM_tick_231 rfl ?_
            refine mx_get 8 2 dM_tick_232 fgM_7 rfl rfl ?_
            refine mx_iload dM_tick_235 rfl ?_
            refine mx_iald dM_tick_237 rfl (vp_in_nI (by omega) (by decide)) ?_
            rw [nI_clamp (by omega), upI_ne _ _ (by decide)]
            refine mx_iload dM_tick_238 rfl ?_
            refine mx_iload dM_tick_240 rfl ?_
            refine mx_S1 (R' := (mR 0 0)) [_, _, _] _ dM_tick_242 rfl mT_G jM_made_ok jM_made_v lkM_116 ⟨rfl, rfl, Nat.le_of_ble_eq_true rfl, Nat.le_of_ble_eq_true rfl⟩ rfl rfl (Nat.le_of_ble_eq_true rfl) (Nat.le_of_ble_eq_true rfl) (fun Qc qc => cM_made qc) ?_
            refine mx_iast dM_tick_245 rfl (vp_in_nI (by omega) (by decide)) ?_
            first | rw [if_pos h193] at hk | rw [if_neg h193] at hk
            rw [nI_clamp (by omega)]
            refine mx_eqs rfl rfl rfl (rp_13 _) ?_
            rw [upI_self, upI_upI]
            refine mx_drop 7 ?_
            refine mx_drop 8 ?_
            refine mx_drop 9 ?_
            refine mx_drop 10 ?_
            refine mx_iinc dM_tick_246 rfl (mx_inc _) (Nat.le_of_ble_eq_true rfl) rfl ?_
            refine mx_goto 109 dM_tick_249 rfl ?_
            exact hk
          · refine mx_aload_n dM_tick_196 rfl ?_
            refine mx_get 8 7 dM_tick_197 fgM_25 rfl rfl ?_
            refine mx_bipush (40) dM_tick_200 (by decide) ?_
            refine mx_iload dM_tick_202 rfl ?_
            refine mx_imul dM_tick_204 ?_
            rw [show (40 : Int32) = nI 40 from rfl, pk_mul]
            refine mx_iald dM_tick_205 rfl (vp_in_nI (by omega) (by decide)) ?_
            rw [nI_clamp (by omega), upI_ne _ _ (by decide)]
            refine mx_goto 223 dM_tick_206 rfl ?_
            refine mx_istore dM_tick_223 (Nat.le_of_ble_eq_true rfl) rfl ?_
            refine mx_aload_n dM_tick_225 rfl ?_
            refine mx_get 8 14 dM_tick_226 fgM_46 rfl rfl ?_
            refine mx_iload dM_tick_229 rfl ?_
            refine mx_aload_n dM_tick_231 rfl ?_
            refine mx_get 8 2 dM_tick_232 fgM_7 rfl rfl ?_
            refine mx_iload dM_tick_235 rfl ?_
            refine mx_iald dM_tick_237 rfl (vp_in_nI (by omega) (by decide)) ?_
            rw [nI_clamp (by omega), upI_ne _ _ (by decide)]
            refine mx_iload dM_tick_238 rfl ?_
            refine mx_iload dM_tick_240 rfl ?_
            refine mx_S1 (R' := (mR 0 0)) [_, _, _] _ dM_tick_242 rfl mT_G jM_made_ok jM_made_v lkM_116 ⟨rfl, rfl, Nat.le_of_ble_eq_true rfl, Nat.le_of_ble_eq_true rfl⟩ rfl rfl (Nat.le_of_ble_eq_true rfl) (Nat.le_of_ble_eq_true rfl) (fun Qc qc => cM_made qc) ?_
            refine mx_iast dM_tick_245 rfl (vp_in_nI (by omega) (by decide)) ?_
            first | rw [if_pos h193] at hk | rw [if_neg h193] at hk
            rw [nI_clamp (by omega)]
            refine mx_eqs rfl rfl rfl (rp_13 _) ?_
            rw [upI_self, upI_upI]
            refine mx_drop 7 ?_
            refine mx_drop 8 ?_
            refine mx_drop 9 ?_
            refine mx_drop 10 ?_
            refine mx_iinc dM_tick_246 rfl (mx_inc _) (Nat.le_of_ble_eq_true rfl) rfl ?_
            refine mx_goto 109 dM_tick_249 rfl ?_
            exact hk
        have g3 : ∀ x : Int32, x = rTw J f a b d (2 * u) → mx_W mx_K mT mCl jM_tick (mR 3 70) 165 [.ref 0, .int a, .int b, .int d, .int (ft), .int (nI r), .int (nI (u + 1)), .int (nI (2 * u)), .int (x), .retAddr 0, .retAddr 0] [] (rp 0 (nI c) (upI J 13 (f))) Q := by
          intro x ex
          rw [← ex] at ih
          refine mx_aload_n dM_tick_165 rfl ?_
          refine mx_iload dM_tick_166 rfl ?_
          refine mx_V1 (R' := (mR 0 0)) [_] _ dM_tick_168 rfl mT_G jM_pins_ok jM_pins_v lkM_63 ⟨rfl, rfl, Nat.le_of_ble_eq_true rfl, Nat.le_of_ble_eq_true rfl⟩ rfl rfl (Nat.le_of_ble_eq_true rfl) (Nat.le_of_ble_eq_true rfl) rfl rfl rfl (fun Qc qc => cM_pins (vp_in_nI (by omega) (by decide)) qc) ?_
          rw [upI_ne _ _ (by decide), pn_nat (by omega)]
          refine mx_iconst (2) dM_tick_171 (by decide) ?_
          refine mx_icmp_ne 182 dM_tick_172 rfl (fun h172 => ?_) (fun h172 => ?_)
          · refine mx_iload dM_tick_182 rfl ?_
            refine mx_istore dM_tick_184 (Nat.le_of_ble_eq_true rfl) rfl ?_
            first
              | (rw [if_pos ((nI_eq (b := 2) (by omega) (by decide)).mp h172)] at ih; exact g2 x (2 * u + 1) (by omega) ih)
              | (rw [if_neg (fun e => h172 (congrArg nI e))] at ih; exact g2 x (2 * u) (by omega) ih)
          · refine mx_iload dM_tick_175 rfl ?_
            refine mx_iconst (1) dM_tick_177 (by decide) ?_
            refine mx_iadd dM_tick_178 ?_
            rw [← nI_succ]
            refine mx_goto 184 dM_tick_179 rfl ?_
            refine mx_istore dM_tick_184 (Nat.le_of_ble_eq_true rfl) rfl ?_
            first
              | (rw [if_pos ((nI_eq (b := 2) (by omega) (by decide)).mp h172)] at ih; exact g2 x (2 * u + 1) (by omega) ih)
              | (rw [if_neg (fun e => h172 (congrArg nI e))] at ih; exact g2 x (2 * u) (by omega) ih)
        refine mx_iload dM_tick_109 rfl ?_
        refine mx_aload_n dM_tick_111 rfl ?_
        refine mx_get 8 1 dM_tick_112 fgM_53 rfl rfl ?_
        refine mx_icmp_gt 252 dM_tick_115 rfl (fun h115 => ?_) (fun h115 => ?_)
        · exact absurd h115 (nI_nlt (by omega) (by omega))
        refine mx_iconst (2) dM_tick_118 (by decide) ?_
        refine mx_iload dM_tick_119 rfl ?_
        refine mx_imul dM_tick_121 ?_
        refine mx_iconst (2) dM_tick_122 (by decide) ?_
        refine mx_isub dM_tick_123 ?_
        rw [show (2 : Int32) = nI 2 from rfl, pk_mul, pk_sub (by omega), show 2 * (u + 1) - 2 = 2 * u from by omega]
        refine mx_istore dM_tick_124 (Nat.le_of_ble_eq_true rfl) rfl ?_
        refine mx_aload_n dM_tick_126 rfl ?_
        refine mx_get 8 5 dM_tick_127 fgM_19 rfl rfl ?_
        refine mx_iload dM_tick_130 rfl ?_
        refine mx_iald dM_tick_132 rfl (vp_in_nI (by omega) (by decide)) ?_
        rw [nI_clamp (by omega), upI_ne _ _ (by decide)]
        refine mx_if_le 149 dM_tick_133 rfl (fun h133 => ?_) (fun h133 => ?_)
        · refine mx_aload_n dM_tick_149 rfl ?_
          refine mx_aload_n dM_tick_150 rfl ?_
          refine mx_get 8 4 dM_tick_151 fgM_16 rfl rfl ?_
          refine mx_iload dM_tick_154 rfl ?_
          refine mx_iald dM_tick_156 rfl (vp_in_nI (by omega) (by decide)) ?_
          rw [nI_clamp (by omega), upI_ne _ _ (by decide)]
          refine mx_iload_n dM_tick_157 rfl ?_
          refine mx_iload_n dM_tick_158 rfl ?_
          refine mx_iload_n dM_tick_159 rfl ?_
          refine mx_V1 (R' := (mR 0 0)) [_, _, _, _] _ dM_tick_160 rfl mT_G jM_input_ok jM_input_v lkM_140 ⟨rfl, rfl, Nat.le_of_ble_eq_true rfl, Nat.le_of_ble_eq_true rfl⟩ rfl rfl (Nat.le_of_ble_eq_true rfl) (Nat.le_of_ble_eq_true rfl) rfl rfl rfl (fun Qc qc => cM_input (hin (2 * u) (by omega)) qc) ?_
          rw [upI_self]
          refine mx_istore dM_tick_163 (Nat.le_of_ble_eq_true rfl) rfl ?_
          first
            | exact g3 _ (if_pos h133).symm
            | exact g3 _ (if_neg h133).symm
        · refine mx_aload_n dM_tick_136 rfl ?_
          refine mx_get 8 7 dM_tick_137 fgM_25 rfl rfl ?_
          refine mx_bipush (40) dM_tick_140 (by decide) ?_
          refine mx_iload dM_tick_142 rfl ?_
          refine mx_imul dM_tick_144 ?_
          rw [show (40 : Int32) = nI 40 from rfl, pk_mul]
          refine mx_iald dM_tick_145 rfl (vp_in_nI (by omega) (by decide)) ?_
          rw [nI_clamp (by omega), upI_ne _ _ (by decide)]
          refine mx_goto 163 dM_tick_146 rfl ?_
          refine mx_istore dM_tick_163 (Nat.le_of_ble_eq_true rfl) rfl ?_
          first
            | exact g3 _ (if_pos h133).symm
            | exact g3 _ (if_neg h133).symm
    have g4 : ∀ r, r ≤ c → mx_W mx_K mT mCl jM_tick (mR 3 70) 97 [.ref 0, .int a, .int b, .int d, .int (ft), .int (nI r), .retAddr 0, .retAddr 0, .retAddr 0, .retAddr 0, .retAddr 0] [] (rp 0 (nI c) (upI J 13 (lp (rTr c J a b d) r (lp (rF1 2) c (J 13))))) Q := by
      refine lp_down ?_ ?_
      · refine mx_iload dM_tick_97 rfl ?_
        refine mx_aload_n dM_tick_99 rfl ?_
        refine mx_get 8 1 dM_tick_100 fgM_53 rfl rfl ?_
        refine mx_icmp_ge 258 dM_tick_103 rfl (fun h103 => ?_) (fun h103 => ?_)
        rotate_left
        · exact absurd (nI_le (Nat.le_refl c) (by omega)) h103
        refine mx_drop 5 ?_
        unfold rTF at a0
        exact a0
      · intro r hr ih
        refine mx_iload dM_tick_97 rfl ?_
        refine mx_aload_n dM_tick_99 rfl ?_
        refine mx_get 8 1 dM_tick_100 fgM_53 rfl rfl ?_
        refine mx_icmp_ge 258 dM_tick_103 rfl (fun h103 => ?_) (fun h103 => ?_)
        · exact absurd h103 (nI_ge (by omega) (by omega))
        refine mx_iconst (1) dM_tick_106 (by decide) ?_
        refine mx_istore dM_tick_107 (Nat.le_of_ble_eq_true rfl) rfl ?_
        refine g1 r _ ?_ 0 (Nat.zero_le _)
        refine mx_iinc dM_tick_252 rfl (mx_inc _) (Nat.le_of_ble_eq_true rfl) rfl ?_
        refine mx_goto 97 dM_tick_255 rfl ?_
        refine mx_drop 6 ?_
        exact ih
    have z1 : ∀ i, i ≤ c → mx_W mx_K mT mCl jM_tick (mR 3 70) 71 [.ref 0, .int a, .int b, .int d, .int (ft), .int (nI (i + 1)), .retAddr 0, .retAddr 0, .retAddr 0, .retAddr 0, .retAddr 0] [] (rp 0 (nI c) (upI J 13 (lp (rF1 2) i (J 13)))) Q := by
      refine lp_down ?_ ?_
      · refine mx_iload dM_tick_71 rfl ?_
        refine mx_aload_n dM_tick_73 rfl ?_
        refine mx_get 8 1 dM_tick_74 fgM_53 rfl rfl ?_
        refine mx_icmp_gt 94 dM_tick_77 rfl (fun h77 => ?_) (fun h77 => ?_)
        rotate_left
        · exact absurd (nI_lt (Nat.lt_succ_self c) (by omega)) h77
        refine mx_iconst (0) dM_tick_94 (by decide) ?_
        refine mx_istore dM_tick_95 (Nat.le_of_ble_eq_true rfl) rfl ?_
        exact g4 0 (Nat.zero_le _)
      · intro i hi ih
        have ih : mx_W mx_K mT mCl jM_tick (mR 3 70) 71 [.ref 0, .int a, .int b, .int d, .int (ft), .int (nI (i + 1 + 1)), .retAddr 0, .retAddr 0, .retAddr 0, .retAddr 0, .retAddr 0] [] (rp 0 (nI c) (upI J 13 (upd (lp (rF1 2) i (J 13)) (i + 1) 2))) Q := ih
        generalize lp (rF1 2) i (J 13) = f at ih ⊢
        refine mx_iload dM_tick_71 rfl ?_
        refine mx_aload_n dM_tick_73 rfl ?_
        refine mx_get 8 1 dM_tick_74 fgM_53 rfl rfl ?_
        refine mx_icmp_gt 94 dM_tick_77 rfl (fun h77 => ?_) (fun h77 => ?_)
        · exact absurd h77 (nI_nlt (by omega) (by omega))
        refine mx_aload_n dM_tick_80 rfl ?_
        refine mx_get 8 14 dM_tick_81 fgM_46 rfl rfl ?_
        refine mx_iload dM_tick_84 rfl ?_
        refine mx_iconst (2) dM_tick_86 (by decide) ?_
        refine mx_iast dM_tick_87 rfl (vp_in_nI (by omega) (by decide)) ?_
        rw [nI_clamp (by omega)]
        refine mx_eqs rfl rfl rfl (rp_13 _) ?_
        rw [upI_self, upI_upI]
        refine mx_iinc dM_tick_88 rfl (mx_inc _) (Nat.le_of_ble_eq_true rfl) rfl ?_
        refine mx_goto 71 dM_tick_91 rfl ?_
        exact ih
    refine mx_iconst (1) dM_tick_68 (by decide) ?_
    refine mx_istore dM_tick_69 (Nat.le_of_ble_eq_true rfl) rfl ?_
    refine mx_eqs rfl rfl rfl ?_ (z1 0 (Nat.zero_le _))
    rw [lp_zero, upI_own]
  unfold rTick at hQ
  have hy : rFits a b d = true → mx_W mx_K mT mCl jM_tick (mR 3 70) 34 [.ref 0, .int a, .int b, .int d, .int (1), .retAddr 0, .retAddr 0, .retAddr 0, .retAddr 0, .retAddr 0, .retAddr 0] [] (rp thr (nI c) I) Q := by
    intro hf
    rw [hf, if_pos rfl] at hQ
    refine mx_aload_n dM_tick_34 rfl ?_
    refine mx_aload_n dM_tick_35 rfl ?_
    refine mx_V1 (R' := (mR 2 46)) [] _ dM_tick_36 rfl mT_G jM_isSound_ok jM_isSound_v lkM_92 ⟨rfl, rfl, Nat.le_of_ble_eq_true rfl, Nat.le_of_ble_eq_true rfl⟩ rfl rfl (Nat.le_of_ble_eq_true rfl) (Nat.le_of_ble_eq_true rfl) rfl rfl rfl (fun Qc qc => cM_isSound hc hfr qc) ?_
    refine mx_if_ne 46 dM_tick_39 rfl (fun h39 => ?_) (fun h39 => ?_)
    · refine mx_iload dM_tick_46 rfl ?_
      refine mx_if_ne 55 dM_tick_48 rfl (fun h48 => ?_) (fun h48 => ?_)
      rotate_left
      · exact absurd h48 (by decide)
      rw [if_pos (i01_nz h39)] at hQ
      refine mx_iconst (0) dM_tick_55 (by decide) ?_
      refine mx_put 8 0 (.int) dM_tick_56 fpM_49 rfl (Nat.le_of_ble_eq_true rfl) rfl rfl ?_
      refine mx_aload_n dM_tick_59 rfl ?_
      refine mx_get 8 0 dM_tick_60 fgM_49 rfl rfl ?_
      refine mx_if_eq 68 dM_tick_63 rfl (fun h63 => ?_) (fun h63 => ?_)
      rotate_left
      · exact absurd rfl h63
      exact hmain _ _ (fun w hw => by rw [rSnI_ne (by decide)]; exact hin w hw) (by rw [rSnI_ne (by decide)]; exact hmn) hQ
    · rw [i01_z h39, if_neg (by decide)] at hQ
      refine mx_iconst (1) dM_tick_42 (by decide) ?_
      refine mx_goto 56 dM_tick_43 rfl ?_
      refine mx_put 8 0 (.int) dM_tick_56 fpM_49 rfl (Nat.le_of_ble_eq_true rfl) rfl rfl ?_
      refine mx_aload_n dM_tick_59 rfl ?_
      refine mx_get 8 0 dM_tick_60 fgM_49 rfl rfl ?_
      refine mx_if_eq 68 dM_tick_63 rfl (fun h63 => ?_) (fun h63 => ?_)
      · exact absurd h63 (by decide)
      refine mx_iconst (0) dM_tick_66 (by decide) ?_
      refine mx_iret dM_tick_67 rfl rfl ?_
      exact hQ
  have hn : rFits a b d = false → mx_W mx_K mT mCl jM_tick (mR 3 70) 34 [.ref 0, .int a, .int b, .int d, .int (0), .retAddr 0, .retAddr 0, .retAddr 0, .retAddr 0, .retAddr 0, .retAddr 0] [] (rp thr (nI c) I) Q := by
    intro hf
    rw [hf, if_neg Bool.false_ne_true] at hQ
    refine mx_aload_n dM_tick_34 rfl ?_
    refine mx_aload_n dM_tick_35 rfl ?_
    refine mx_V1 (R' := (mR 2 46)) [] _ dM_tick_36 rfl mT_G jM_isSound_ok jM_isSound_v lkM_92 ⟨rfl, rfl, Nat.le_of_ble_eq_true rfl, Nat.le_of_ble_eq_true rfl⟩ rfl rfl (Nat.le_of_ble_eq_true rfl) (Nat.le_of_ble_eq_true rfl) rfl rfl rfl (fun Qc qc => cM_isSound hc hfr qc) ?_
    refine mx_if_ne 46 dM_tick_39 rfl (fun h39 => ?_) (fun h39 => ?_)
    · refine mx_iload dM_tick_46 rfl ?_
      refine mx_if_ne 55 dM_tick_48 rfl (fun h48 => ?_) (fun h48 => ?_)
      · exact absurd rfl h48
      rw [if_pos (i01_nz h39)] at hQ
      refine mx_iconst (2) dM_tick_51 (by decide) ?_
      refine mx_goto 56 dM_tick_52 rfl ?_
      refine mx_put 8 0 (.int) dM_tick_56 fpM_49 rfl (Nat.le_of_ble_eq_true rfl) rfl rfl ?_
      refine mx_aload_n dM_tick_59 rfl ?_
      refine mx_get 8 0 dM_tick_60 fgM_49 rfl rfl ?_
      refine mx_if_eq 68 dM_tick_63 rfl (fun h63 => ?_) (fun h63 => ?_)
      · exact absurd h63 (by decide)
      refine mx_iconst (0) dM_tick_66 (by decide) ?_
      refine mx_iret dM_tick_67 rfl rfl ?_
      exact hQ
    · rw [i01_z h39, if_neg (by decide)] at hQ
      refine mx_iconst (1) dM_tick_42 (by decide) ?_
      refine mx_goto 56 dM_tick_43 rfl ?_
      refine mx_put 8 0 (.int) dM_tick_56 fpM_49 rfl (Nat.le_of_ble_eq_true rfl) rfl rfl ?_
      refine mx_aload_n dM_tick_59 rfl ?_
      refine mx_get 8 0 dM_tick_60 fgM_49 rfl rfl ?_
      refine mx_if_eq 68 dM_tick_63 rfl (fun h63 => ?_) (fun h63 => ?_)
      · exact absurd h63 (by decide)
      refine mx_iconst (0) dM_tick_66 (by decide) ?_
      refine mx_iret dM_tick_67 rfl rfl ?_
      exact hQ
  refine mx_iload_n dM_tick_0 rfl ?_
  refine mx_if_lt 31 dM_tick_1 rfl (fun h1 => ?_) (fun h1 => ?_)
  · refine mx_iconst (0) dM_tick_31 (by decide) ?_
    refine mx_istore dM_tick_32 (Nat.le_of_ble_eq_true rfl) rfl ?_
    first
      | exact hy (decide_eq_true ⟨h1, h6, h10, h15, h19, h24⟩)
      | exact hn (decide_eq_false (fun q => q.2.2.2.2.2 h24))
      | exact hn (decide_eq_false (fun q => q.2.2.2.2.1 h19))
      | exact hn (decide_eq_false (fun q => q.2.2.2.1 h15))
      | exact hn (decide_eq_false (fun q => q.2.2.1 h10))
      | exact hn (decide_eq_false (fun q => q.2.1 h6))
      | exact hn (decide_eq_false (fun q => q.1 h1))
  · refine mx_iload_n dM_tick_4 rfl ?_
    refine mx_iconst (2) dM_tick_5 (by decide) ?_
    refine mx_icmp_gt 31 dM_tick_6 rfl (fun h6 => ?_) (fun h6 => ?_)
    · refine mx_iconst (0) dM_tick_31 (by decide) ?_
      refine mx_istore dM_tick_32 (Nat.le_of_ble_eq_true rfl) rfl ?_
      first
        | exact hy (decide_eq_true ⟨h1, h6, h10, h15, h19, h24⟩)
        | exact hn (decide_eq_false (fun q => q.2.2.2.2.2 h24))
        | exact hn (decide_eq_false (fun q => q.2.2.2.2.1 h19))
        | exact hn (decide_eq_false (fun q => q.2.2.2.1 h15))
        | exact hn (decide_eq_false (fun q => q.2.2.1 h10))
        | exact hn (decide_eq_false (fun q => q.2.1 h6))
        | exact hn (decide_eq_false (fun q => q.1 h1))
    · refine mx_iload_n dM_tick_9 rfl ?_
      refine mx_if_lt 31 dM_tick_10 rfl (fun h10 => ?_) (fun h10 => ?_)
      · refine mx_iconst (0) dM_tick_31 (by decide) ?_
        refine mx_istore dM_tick_32 (Nat.le_of_ble_eq_true rfl) rfl ?_
        first
          | exact hy (decide_eq_true ⟨h1, h6, h10, h15, h19, h24⟩)
          | exact hn (decide_eq_false (fun q => q.2.2.2.2.2 h24))
          | exact hn (decide_eq_false (fun q => q.2.2.2.2.1 h19))
          | exact hn (decide_eq_false (fun q => q.2.2.2.1 h15))
          | exact hn (decide_eq_false (fun q => q.2.2.1 h10))
          | exact hn (decide_eq_false (fun q => q.2.1 h6))
          | exact hn (decide_eq_false (fun q => q.1 h1))
      · refine mx_iload_n dM_tick_13 rfl ?_
        refine mx_iconst (2) dM_tick_14 (by decide) ?_
        refine mx_icmp_gt 31 dM_tick_15 rfl (fun h15 => ?_) (fun h15 => ?_)
        · refine mx_iconst (0) dM_tick_31 (by decide) ?_
          refine mx_istore dM_tick_32 (Nat.le_of_ble_eq_true rfl) rfl ?_
          first
            | exact hy (decide_eq_true ⟨h1, h6, h10, h15, h19, h24⟩)
            | exact hn (decide_eq_false (fun q => q.2.2.2.2.2 h24))
            | exact hn (decide_eq_false (fun q => q.2.2.2.2.1 h19))
            | exact hn (decide_eq_false (fun q => q.2.2.2.1 h15))
            | exact hn (decide_eq_false (fun q => q.2.2.1 h10))
            | exact hn (decide_eq_false (fun q => q.2.1 h6))
            | exact hn (decide_eq_false (fun q => q.1 h1))
        · refine mx_iload_n dM_tick_18 rfl ?_
          refine mx_if_lt 31 dM_tick_19 rfl (fun h19 => ?_) (fun h19 => ?_)
          · refine mx_iconst (0) dM_tick_31 (by decide) ?_
            refine mx_istore dM_tick_32 (Nat.le_of_ble_eq_true rfl) rfl ?_
            first
              | exact hy (decide_eq_true ⟨h1, h6, h10, h15, h19, h24⟩)
              | exact hn (decide_eq_false (fun q => q.2.2.2.2.2 h24))
              | exact hn (decide_eq_false (fun q => q.2.2.2.2.1 h19))
              | exact hn (decide_eq_false (fun q => q.2.2.2.1 h15))
              | exact hn (decide_eq_false (fun q => q.2.2.1 h10))
              | exact hn (decide_eq_false (fun q => q.2.1 h6))
              | exact hn (decide_eq_false (fun q => q.1 h1))
          · refine mx_iload_n dM_tick_22 rfl ?_
            refine mx_iconst (2) dM_tick_23 (by decide) ?_
            refine mx_icmp_gt 31 dM_tick_24 rfl (fun h24 => ?_) (fun h24 => ?_)
            · refine mx_iconst (0) dM_tick_31 (by decide) ?_
              refine mx_istore dM_tick_32 (Nat.le_of_ble_eq_true rfl) rfl ?_
              first
                | exact hy (decide_eq_true ⟨h1, h6, h10, h15, h19, h24⟩)
                | exact hn (decide_eq_false (fun q => q.2.2.2.2.2 h24))
                | exact hn (decide_eq_false (fun q => q.2.2.2.2.1 h19))
                | exact hn (decide_eq_false (fun q => q.2.2.2.1 h15))
                | exact hn (decide_eq_false (fun q => q.2.2.1 h10))
                | exact hn (decide_eq_false (fun q => q.2.1 h6))
                | exact hn (decide_eq_false (fun q => q.1 h1))
            · refine mx_iconst (1) dM_tick_27 (by decide) ?_
              refine mx_goto 32 dM_tick_28 rfl ?_
              refine mx_istore dM_tick_32 (Nat.le_of_ble_eq_true rfl) rfl ?_
              first
                | exact hy (decide_eq_true ⟨h1, h6, h10, h15, h19, h24⟩)
                | exact hn (decide_eq_false (fun q => q.2.2.2.2.2 h24))
                | exact hn (decide_eq_false (fun q => q.2.2.2.2.1 h19))
                | exact hn (decide_eq_false (fun q => q.2.2.2.1 h15))
                | exact hn (decide_eq_false (fun q => q.2.2.1 h10))
                | exact hn (decide_eq_false (fun q => q.2.1 h6))
                | exact hn (decide_eq_false (fun q => q.1 h1))
