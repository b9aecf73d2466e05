/-! Rooms, calls with one answer, pictures of Plan and Bank. -/
abbrev mR (f l : Nat) : Room := { frames := f, cells := 0, slots := 0, locals := l }
abbrev mRT (f l : Nat) : Room := { frames := f, cells := 1, slots := 6, locals := l }
section MXD
variable {K : Nat → Addr → State → State → Prop} {T : List Cond} {cl : List vw_C} {J : mx_J} {R : Room} {k : Nat} {ls : List Value} {hp : List va_E} {Q : mx_O → List va_E → Prop}
theorem mx_V1 {J' : mx_J} {R' : Room} {idx n b ci : Nat} {fs : List Value} {r : vw_C} {st : List Value} {v : Option Value} {hp' : List va_E} (as rest : List Value) (hd : decode J.2.1 k = .ok (.invokevirtual idx, 3)) (hst : st = as.reverse ++ .ref b :: rest) (hG : mx_G T) (hok : mx_ok T J' n) (hV : Cond.instanceMethod J'.1 ∈ T ∧ Cond.selects J'.1.cls J'.1 J'.1 ∈ T) (hlk : mx_lk T J.1.cls idx J'.1) (hRm : mx_rm R' R J'.2.2.1) (hn : as.length = n) (hc1 : mx_cat1 (.ref b :: as) = true) (hle : (.ref b :: as).length ≤ J'.2.2.1) (hrest : (rest.map fun v => v.category).sum ≤ 8) (hb : hp[b]? = some (.inr (ci, fs))) (hci : cl[ci]? = some r) (hr : r.1 = J'.1.cls)
    (hW : ∀ Qc : mx_O → List va_E → Prop, Qc (.inl v) hp' → mx_W K T cl J' R' 0 (mx_pad (.ref b :: as) J'.2.2.1) [] hp Qc) (next : mx_W K T cl J R (k + 3) ls (v.toList ++ rest) hp' Q) : mx_W K T cl J R k ls st hp Q :=
  mx_V as rest hd hst hG hok hV hlk hRm hn hc1 hle hrest hb hci hr (hW (fun r h => r = .inl v ∧ h = hp') ⟨rfl, rfl⟩) (fun X h' q => by cases q.1) (fun v' h' q => by
    obtain ⟨e1, e2⟩ := q
    cases e1
    subst e2
    exact next)
theorem mx_S1 {J' : mx_J} {R' : Room} {idx n : Nat} {st : List Value} {v : Option Value} {hp' : List va_E} (as rest : List Value) (hd : decode J.2.1 k = .ok (.invokestatic idx, 3)) (hst : st = as.reverse ++ rest) (hG : mx_G T) (hok : mx_ok T J' n) (hV : Cond.static J'.1 ∈ T) (hlk : mx_lk T J.1.cls idx J'.1) (hRm : mx_rm R' R J'.2.2.1) (hn : as.length = n) (hc1 : mx_cat1 as = true) (hle : as.length ≤ J'.2.2.1) (hrest : (rest.map fun v => v.category).sum ≤ 8)
    (hW : ∀ Qc : mx_O → List va_E → Prop, Qc (.inl v) hp' → mx_W K T cl J' R' 0 (mx_pad as J'.2.2.1) [] hp Qc) (next : mx_W K T cl J R (k + 3) ls (v.toList ++ rest) hp' Q) : mx_W K T cl J R k ls st hp Q :=
  mx_S as rest hd hst hG hok hV hlk hRm hn hc1 hle hrest (hW (fun r h => r = .inl v ∧ h = hp') ⟨rfl, rfl⟩) (fun X h' q => by cases q.1) (fun v' h' q => by
    obtain ⟨e1, e2⟩ := q
    cases e1
    subst e2
    exact next)
end MXD
/-- a Plan at cell b: its count, its rows kind, cost, source at k1, k2, k3 -/
def pP (hp : List va_E) (b k1 k2 k3 : Nat) (cnt : Int32) (kd cs sr : Nat → Int32) : Prop := hp[b]? = some (.inr (1, [.int cnt, .ref k1, .ref k2, .ref k3])) ∧ hp[k1]? = some (.inl (0, 13, .inl kd)) ∧ hp[k2]? = some (.inl (0, 13, .inl cs)) ∧ hp[k3]? = some (.inl (0, 27, .inl sr))
/-- a Bank at cell b: its rows lengths, values at kl, kv -/
def pB (hp : List va_E) (b kl kv : Nat) (ln : Nat → Int32) (vl : Nat → Int64) : Prop := hp[b]? = some (.inr (2, [.ref kl, .ref kv])) ∧ hp[kl]? = some (.inl (0, 27, .inl ln)) ∧ hp[kv]? = some (.inl (1, 27, .inr (.inl vl)))
