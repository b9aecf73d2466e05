/-! The words of throw new X() in MovedRegisters. -/
def twOk (ic : Nat) (X : Nat) : Bool := (Bundle.ownAtoms0 "MovedRegisters" ic (mx_xn X) mx_up).all (fun a => (decide (a ∈ lw_tbl) && mx_gw a) || (decide (a = .isRef (.static "java/lang/Throwable" "UNASSIGNED_STACK" "[Ljava/lang/StackTraceElement;")) || (decide (a = .isRef (.static "java/lang/Throwable" "SUPPRESSED_SENTINEL" "Ljava/util/List;")) || (decide (a = .laysStatic "java/lang/Throwable" "UNASSIGNED_STACK" "[Ljava/lang/StackTraceElement;") || decide (a = .laysStatic "java/lang/Throwable" "SUPPRESSED_SENTINEL" "Ljava/util/List;")))))
theorem tw_of {ic X : Nat} (h : twOk ic X = true) : ∀ a ∈ Bundle.ownAtoms0 "MovedRegisters" ic (mx_xn X) mx_up, a ∈ mT ∨ a = .isRef (.static "java/lang/Throwable" "UNASSIGNED_STACK" "[Ljava/lang/StackTraceElement;") ∨ a = .isRef (.static "java/lang/Throwable" "SUPPRESSED_SENTINEL" "Ljava/util/List;") ∨ a = .laysStatic "java/lang/Throwable" "UNASSIGNED_STACK" "[Ljava/lang/StackTraceElement;" ∨ a = .laysStatic "java/lang/Throwable" "SUPPRESSED_SENTINEL" "Ljava/util/List;" := by
  intro a ha
  have h1 := List.all_eq_true.mp h a ha
  simp only [Bool.or_eq_true, Bool.and_eq_true, decide_eq_true_eq] at h1
  rcases h1 with ⟨h2, h3⟩ | h2
  · exact Or.inl (mT_of h2 h3)
  · exact Or.inr h2
set_option maxRecDepth 100000 in
theorem tw_67 : twOk 67 0 = true := by decide +kernel
set_option maxRecDepth 100000 in
theorem tw_74 : twOk 74 1 = true := by decide +kernel
set_option maxRecDepth 100000 in
theorem tw_89 : twOk 89 2 = true := by decide +kernel
set_option maxRecDepth 100000 in
theorem tw_180 : twOk 180 3 = true := by decide +kernel
