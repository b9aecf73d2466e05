section
-- ===== PART A: goes FIRST, ahead of the names: the tables' words, and 'selects' of the private methods out of them =====
/-- a private method of a class that the tables say can be made, by its rows of tables_1 -/
def lw_okq (q : MethodName × Nat) : Prop := (q.1.cls ≠ "java/lang/invoke/MethodHandle" ∧ q.1.cls ≠ "java/lang/invoke/VarHandle") ∧ Cond.instantiable q.1.cls q.2 ∈ tables_1 ∧ Cond.privateMethod q.1 ∈ tables_1 ∧ Cond.instanceMethod q.1 ∈ tables_1
theorem lw_p0 : lw_okq (⟨"MovedRegisters", "isSound", "()Z"⟩, 9) := ⟨⟨by decide +kernel, by decide +kernel⟩, List.mem_of_getElem? (i := 21) (by decide +kernel), List.mem_of_getElem? (i := 189) (by decide +kernel), List.mem_of_getElem? (i := 190) (by decide +kernel)⟩
theorem lw_p1 : lw_okq (⟨"MovedRegisters$Plan", "hasAllPins", "(I)Z"⟩, 4) := ⟨⟨by decide +kernel, by decide +kernel⟩, List.mem_of_getElem? (i := 29) (by decide +kernel), List.mem_of_getElem? (i := 197) (by decide +kernel), List.mem_of_getElem? (i := 198) (by decide +kernel)⟩
theorem lw_p2 : lw_okq (⟨"MovedRegisters$Plan", "isSource", "(I)Z"⟩, 4) := ⟨⟨by decide +kernel, by decide +kernel⟩, List.mem_of_getElem? (i := 29) (by decide +kernel), List.mem_of_getElem? (i := 213) (by decide +kernel), List.mem_of_getElem? (i := 214) (by decide +kernel)⟩
theorem lw_p3 : lw_okq (⟨"MovedRegisters$Order", "placeReady", "(LMovedRegisters$Plan;LMovedRegisters$Bank;)V"⟩, 3) := ⟨⟨by decide +kernel, by decide +kernel⟩, List.mem_of_getElem? (i := 76) (by decide +kernel), List.mem_of_getElem? (i := 221) (by decide +kernel), List.mem_of_getElem? (i := 222) (by decide +kernel)⟩
theorem lw_p4 : lw_okq (⟨"MovedRegisters$Order", "isReady", "(LMovedRegisters$Plan;LMovedRegisters$Bank;I)Z"⟩, 3) := ⟨⟨by decide +kernel, by decide +kernel⟩, List.mem_of_getElem? (i := 76) (by decide +kernel), List.mem_of_getElem? (i := 225) (by decide +kernel), List.mem_of_getElem? (i := 226) (by decide +kernel)⟩
theorem lw_p5 : lw_okq (⟨"java/lang/Throwable", "fillInStackTrace", "(I)Ljava/lang/Throwable;"⟩, 6) := ⟨⟨by decide +kernel, by decide +kernel⟩, List.mem_of_getElem? (i := 305) (by decide +kernel), List.mem_of_getElem? (i := 303) (by decide +kernel), List.mem_of_getElem? (i := 304) (by decide +kernel)⟩
theorem lw_p6 : lw_okq (⟨"MovedRegisters", "registerWire", "(III)I"⟩, 9) := ⟨⟨by decide +kernel, by decide +kernel⟩, List.mem_of_getElem? (i := 21) (by decide +kernel), List.mem_of_getElem? (i := 408) (by decide +kernel), List.mem_of_getElem? (i := 409) (by decide +kernel)⟩
theorem lw_p7 : lw_okq (⟨"MovedRegisters", "wireTo", "(II)I"⟩, 9) := ⟨⟨by decide +kernel, by decide +kernel⟩, List.mem_of_getElem? (i := 21) (by decide +kernel), List.mem_of_getElem? (i := 412) (by decide +kernel), List.mem_of_getElem? (i := 413) (by decide +kernel)⟩
theorem lw_p8 : lw_okq (⟨"MovedRegisters", "needSound", "()V"⟩, 9) := ⟨⟨by decide +kernel, by decide +kernel⟩, List.mem_of_getElem? (i := 21) (by decide +kernel), List.mem_of_getElem? (i := 447) (by decide +kernel), List.mem_of_getElem? (i := 448) (by decide +kernel)⟩
theorem lw_p9 : lw_okq (⟨"MovedRegisters$Paths", "offer", "(IIII)V"⟩, 2) := ⟨⟨by decide +kernel, by decide +kernel⟩, List.mem_of_getElem? (i := 94) (by decide +kernel), List.mem_of_getElem? (i := 470) (by decide +kernel), List.mem_of_getElem? (i := 471) (by decide +kernel)⟩
theorem lw_p10 : lw_okq (⟨"MovedRegisters$Paths", "offerWire", "(LMovedRegisters$Plan;LMovedRegisters$Bank;I)V"⟩, 2) := ⟨⟨by decide +kernel, by decide +kernel⟩, List.mem_of_getElem? (i := 94) (by decide +kernel), List.mem_of_getElem? (i := 474) (by decide +kernel), List.mem_of_getElem? (i := 475) (by decide +kernel)⟩
theorem lw_p11 : lw_okq (⟨"MovedRegisters$Paths", "offerOver", "(LMovedRegisters$Plan;II)V"⟩, 2) := ⟨⟨by decide +kernel, by decide +kernel⟩, List.mem_of_getElem? (i := 94) (by decide +kernel), List.mem_of_getElem? (i := 484) (by decide +kernel), List.mem_of_getElem? (i := 485) (by decide +kernel)⟩
theorem lw_p12 : lw_okq (⟨"MovedRegisters", "needGate", "(I)V"⟩, 9) := ⟨⟨by decide +kernel, by decide +kernel⟩, List.mem_of_getElem? (i := 21) (by decide +kernel), List.mem_of_getElem? (i := 500) (by decide +kernel), List.mem_of_getElem? (i := 501) (by decide +kernel)⟩
theorem lw_p13 : lw_okq (⟨"MovedRegisters$Limits", "limitWire", "(III)V"⟩, 2) := ⟨⟨by decide +kernel, by decide +kernel⟩, List.mem_of_getElem? (i := 113) (by decide +kernel), List.mem_of_getElem? (i := 526) (by decide +kernel), List.mem_of_getElem? (i := 527) (by decide +kernel)⟩
theorem lw_p14 : lw_okq (⟨"MovedRegisters$Limits", "limit", "(III)V"⟩, 2) := ⟨⟨by decide +kernel, by decide +kernel⟩, List.mem_of_getElem? (i := 113) (by decide +kernel), List.mem_of_getElem? (i := 530) (by decide +kernel), List.mem_of_getElem? (i := 531) (by decide +kernel)⟩
theorem lw_p15 : lw_okq (⟨"MovedRegisters$Limits", "limitPaths", "(ILMovedRegisters$Paths;II)V"⟩, 2) := ⟨⟨by decide +kernel, by decide +kernel⟩, List.mem_of_getElem? (i := 113) (by decide +kernel), List.mem_of_getElem? (i := 537) (by decide +kernel), List.mem_of_getElem? (i := 538) (by decide +kernel)⟩
def lw_privs_1 : List (MethodName × Nat) := [(⟨"MovedRegisters", "isSound", "()Z"⟩, 9), (⟨"MovedRegisters$Plan", "hasAllPins", "(I)Z"⟩, 4), (⟨"MovedRegisters$Plan", "isSource", "(I)Z"⟩, 4), (⟨"MovedRegisters$Order", "placeReady", "(LMovedRegisters$Plan;LMovedRegisters$Bank;)V"⟩, 3), (⟨"MovedRegisters$Order", "isReady", "(LMovedRegisters$Plan;LMovedRegisters$Bank;I)Z"⟩, 3), (⟨"java/lang/Throwable", "fillInStackTrace", "(I)Ljava/lang/Throwable;"⟩, 6), (⟨"MovedRegisters", "registerWire", "(III)I"⟩, 9), (⟨"MovedRegisters", "wireTo", "(II)I"⟩, 9), (⟨"MovedRegisters", "needSound", "()V"⟩, 9), (⟨"MovedRegisters$Paths", "offer", "(IIII)V"⟩, 2), (⟨"MovedRegisters$Paths", "offerWire", "(LMovedRegisters$Plan;LMovedRegisters$Bank;I)V"⟩, 2), (⟨"MovedRegisters$Paths", "offerOver", "(LMovedRegisters$Plan;II)V"⟩, 2), (⟨"MovedRegisters", "needGate", "(I)V"⟩, 9), (⟨"MovedRegisters$Limits", "limitWire", "(III)V"⟩, 2), (⟨"MovedRegisters$Limits", "limit", "(III)V"⟩, 2), (⟨"MovedRegisters$Limits", "limitPaths", "(ILMovedRegisters$Paths;II)V"⟩, 2)]
theorem lw_r1 : ∀ q ∈ lw_privs_1, lw_okq q := List.forall_mem_cons.mpr ⟨lw_p0, List.forall_mem_cons.mpr ⟨lw_p1, List.forall_mem_cons.mpr ⟨lw_p2, List.forall_mem_cons.mpr ⟨lw_p3, List.forall_mem_cons.mpr ⟨lw_p4, List.forall_mem_cons.mpr ⟨lw_p5, List.forall_mem_cons.mpr ⟨lw_p6, List.forall_mem_cons.mpr ⟨lw_p7, List.forall_mem_cons.mpr ⟨lw_p8, List.forall_mem_cons.mpr ⟨lw_p9, List.forall_mem_cons.mpr ⟨lw_p10, List.forall_mem_cons.mpr ⟨lw_p11, List.forall_mem_cons.mpr ⟨lw_p12, List.forall_mem_cons.mpr ⟨lw_p13, List.forall_mem_cons.mpr ⟨lw_p14, List.forall_mem_cons.mpr ⟨lw_p15, fun _ h => absurd h List.not_mem_nil⟩⟩⟩⟩⟩⟩⟩⟩⟩⟩⟩⟩⟩⟩⟩⟩
theorem lw_p16 : lw_okq (⟨"MovedRegisters$Limits", "lowerAll", "(I)Z"⟩, 2) := ⟨⟨by decide +kernel, by decide +kernel⟩, List.mem_of_getElem? (i := 113) (by decide +kernel), List.mem_of_getElem? (i := 545) (by decide +kernel), List.mem_of_getElem? (i := 546) (by decide +kernel)⟩
theorem lw_p17 : lw_okq (⟨"MovedRegisters$Limits", "areAllowed", "(I)Z"⟩, 2) := ⟨⟨by decide +kernel, by decide +kernel⟩, List.mem_of_getElem? (i := 113) (by decide +kernel), List.mem_of_getElem? (i := 549) (by decide +kernel), List.mem_of_getElem? (i := 550) (by decide +kernel)⟩
theorem lw_p18 : lw_okq (⟨"MovedRegisters", "mostFrom", "(I)I"⟩, 9) := ⟨⟨by decide +kernel, by decide +kernel⟩, List.mem_of_getElem? (i := 21) (by decide +kernel), List.mem_of_getElem? (i := 560) (by decide +kernel), List.mem_of_getElem? (i := 561) (by decide +kernel)⟩
theorem lw_p19 : lw_okq (⟨"MovedRegisters", "moveUpTo", "(I)Z"⟩, 9) := ⟨⟨by decide +kernel, by decide +kernel⟩, List.mem_of_getElem? (i := 21) (by decide +kernel), List.mem_of_getElem? (i := 572) (by decide +kernel), List.mem_of_getElem? (i := 573) (by decide +kernel)⟩
theorem lw_p20 : lw_okq (⟨"MovedRegisters$Mover", "isDone", "(I)Z"⟩, 1) := ⟨⟨by decide +kernel, by decide +kernel⟩, List.mem_of_getElem? (i := 128) (by decide +kernel), List.mem_of_getElem? (i := 582) (by decide +kernel), List.mem_of_getElem? (i := 583) (by decide +kernel)⟩
theorem lw_p21 : lw_okq (⟨"MovedRegisters$Mover", "moveEach", "(LMovedRegisters$Plan;LMovedRegisters$Bank;)Z"⟩, 1) := ⟨⟨by decide +kernel, by decide +kernel⟩, List.mem_of_getElem? (i := 128) (by decide +kernel), List.mem_of_getElem? (i := 586) (by decide +kernel), List.mem_of_getElem? (i := 587) (by decide +kernel)⟩
theorem lw_p22 : lw_okq (⟨"MovedRegisters$Mover", "canForward", "(LMovedRegisters$Plan;LMovedRegisters$Bank;I)Z"⟩, 1) := ⟨⟨by decide +kernel, by decide +kernel⟩, List.mem_of_getElem? (i := 128) (by decide +kernel), List.mem_of_getElem? (i := 590) (by decide +kernel), List.mem_of_getElem? (i := 591) (by decide +kernel)⟩
theorem lw_p23 : lw_okq (⟨"MovedRegisters$Mover", "forward", "(LMovedRegisters$Plan;LMovedRegisters$Bank;I)V"⟩, 1) := ⟨⟨by decide +kernel, by decide +kernel⟩, List.mem_of_getElem? (i := 128) (by decide +kernel), List.mem_of_getElem? (i := 597) (by decide +kernel), List.mem_of_getElem? (i := 598) (by decide +kernel)⟩
theorem lw_p24 : lw_okq (⟨"MovedRegisters$Mover", "canBackward", "(LMovedRegisters$Plan;LMovedRegisters$Bank;I)Z"⟩, 1) := ⟨⟨by decide +kernel, by decide +kernel⟩, List.mem_of_getElem? (i := 128) (by decide +kernel), List.mem_of_getElem? (i := 617) (by decide +kernel), List.mem_of_getElem? (i := 618) (by decide +kernel)⟩
theorem lw_p25 : lw_okq (⟨"MovedRegisters$Mover", "backward", "(LMovedRegisters$Plan;LMovedRegisters$Bank;I)Z"⟩, 1) := ⟨⟨by decide +kernel, by decide +kernel⟩, List.mem_of_getElem? (i := 128) (by decide +kernel), List.mem_of_getElem? (i := 621) (by decide +kernel), List.mem_of_getElem? (i := 622) (by decide +kernel)⟩
theorem lw_p26 : lw_okq (⟨"MovedRegisters$Clock", "valueOf", "(LMovedRegisters$Plan;I)I"⟩, 2) := ⟨⟨by decide +kernel, by decide +kernel⟩, List.mem_of_getElem? (i := 138) (by decide +kernel), List.mem_of_getElem? (i := 663) (by decide +kernel), List.mem_of_getElem? (i := 664) (by decide +kernel)⟩
theorem lw_p27 : lw_okq (⟨"MovedRegistersModel", "begin", "()V"⟩, 15) := ⟨⟨by decide +kernel, by decide +kernel⟩, List.mem_of_getElem? (i := 681) (by decide +kernel), List.mem_of_getElem? (i := 741) (by decide +kernel), List.mem_of_getElem? (i := 742) (by decide +kernel)⟩
theorem lw_p28 : lw_okq (⟨"MovedRegistersModel", "isGate", "(I)Z"⟩, 15) := ⟨⟨by decide +kernel, by decide +kernel⟩, List.mem_of_getElem? (i := 681) (by decide +kernel), List.mem_of_getElem? (i := 749) (by decide +kernel), List.mem_of_getElem? (i := 750) (by decide +kernel)⟩
theorem lw_p29 : lw_okq (⟨"MovedRegistersModel", "place", "(II)I"⟩, 15) := ⟨⟨by decide +kernel, by decide +kernel⟩, List.mem_of_getElem? (i := 681) (by decide +kernel), List.mem_of_getElem? (i := 756) (by decide +kernel), List.mem_of_getElem? (i := 757) (by decide +kernel)⟩
theorem lw_p30 : lw_okq (⟨"MovedRegistersModel", "pins", "(I)I"⟩, 15) := ⟨⟨by decide +kernel, by decide +kernel⟩, List.mem_of_getElem? (i := 681) (by decide +kernel), List.mem_of_getElem? (i := 760) (by decide +kernel), List.mem_of_getElem? (i := 761) (by decide +kernel)⟩
theorem lw_p31 : lw_okq (⟨"MovedRegistersModel", "isRegister", "(II)Z"⟩, 15) := ⟨⟨by decide +kernel, by decide +kernel⟩, List.mem_of_getElem? (i := 681) (by decide +kernel), List.mem_of_getElem? (i := 768) (by decide +kernel), List.mem_of_getElem? (i := 769) (by decide +kernel)⟩
def lw_privs_2 : List (MethodName × Nat) := [(⟨"MovedRegisters$Limits", "lowerAll", "(I)Z"⟩, 2), (⟨"MovedRegisters$Limits", "areAllowed", "(I)Z"⟩, 2), (⟨"MovedRegisters", "mostFrom", "(I)I"⟩, 9), (⟨"MovedRegisters", "moveUpTo", "(I)Z"⟩, 9), (⟨"MovedRegisters$Mover", "isDone", "(I)Z"⟩, 1), (⟨"MovedRegisters$Mover", "moveEach", "(LMovedRegisters$Plan;LMovedRegisters$Bank;)Z"⟩, 1), (⟨"MovedRegisters$Mover", "canForward", "(LMovedRegisters$Plan;LMovedRegisters$Bank;I)Z"⟩, 1), (⟨"MovedRegisters$Mover", "forward", "(LMovedRegisters$Plan;LMovedRegisters$Bank;I)V"⟩, 1), (⟨"MovedRegisters$Mover", "canBackward", "(LMovedRegisters$Plan;LMovedRegisters$Bank;I)Z"⟩, 1), (⟨"MovedRegisters$Mover", "backward", "(LMovedRegisters$Plan;LMovedRegisters$Bank;I)Z"⟩, 1), (⟨"MovedRegisters$Clock", "valueOf", "(LMovedRegisters$Plan;I)I"⟩, 2), (⟨"MovedRegistersModel", "begin", "()V"⟩, 15), (⟨"MovedRegistersModel", "isGate", "(I)Z"⟩, 15), (⟨"MovedRegistersModel", "place", "(II)I"⟩, 15), (⟨"MovedRegistersModel", "pins", "(I)I"⟩, 15), (⟨"MovedRegistersModel", "isRegister", "(II)Z"⟩, 15)]
theorem lw_r2 : ∀ q ∈ lw_privs_2, lw_okq q := List.forall_mem_cons.mpr ⟨lw_p16, List.forall_mem_cons.mpr ⟨lw_p17, List.forall_mem_cons.mpr ⟨lw_p18, List.forall_mem_cons.mpr ⟨lw_p19, List.forall_mem_cons.mpr ⟨lw_p20, List.forall_mem_cons.mpr ⟨lw_p21, List.forall_mem_cons.mpr ⟨lw_p22, List.forall_mem_cons.mpr ⟨lw_p23, List.forall_mem_cons.mpr ⟨lw_p24, List.forall_mem_cons.mpr ⟨lw_p25, List.forall_mem_cons.mpr ⟨lw_p26, List.forall_mem_cons.mpr ⟨lw_p27, List.forall_mem_cons.mpr ⟨lw_p28, List.forall_mem_cons.mpr ⟨lw_p29, List.forall_mem_cons.mpr ⟨lw_p30, List.forall_mem_cons.mpr ⟨lw_p31, fun _ h => absurd h List.not_mem_nil⟩⟩⟩⟩⟩⟩⟩⟩⟩⟩⟩⟩⟩⟩⟩⟩
theorem lw_p32 : lw_okq (⟨"MovedRegistersModel", "isWire", "(I)Z"⟩, 15) := ⟨⟨by decide +kernel, by decide +kernel⟩, List.mem_of_getElem? (i := 681) (by decide +kernel), List.mem_of_getElem? (i := 772) (by decide +kernel), List.mem_of_getElem? (i := 773) (by decide +kernel)⟩
theorem lw_p33 : lw_okq (⟨"MovedRegistersModel", "isSound", "()Z"⟩, 15) := ⟨⟨by decide +kernel, by decide +kernel⟩, List.mem_of_getElem? (i := 681) (by decide +kernel), List.mem_of_getElem? (i := 792) (by decide +kernel), List.mem_of_getElem? (i := 793) (by decide +kernel)⟩
theorem lw_p34 : lw_okq (⟨"MovedRegistersModel", "looped", "()Z"⟩, 15) := ⟨⟨by decide +kernel, by decide +kernel⟩, List.mem_of_getElem? (i := 681) (by decide +kernel), List.mem_of_getElem? (i := 796) (by decide +kernel), List.mem_of_getElem? (i := 797) (by decide +kernel)⟩
theorem lw_p35 : lw_okq (⟨"MovedRegistersModel", "measure", "()V"⟩, 15) := ⟨⟨by decide +kernel, by decide +kernel⟩, List.mem_of_getElem? (i := 681) (by decide +kernel), List.mem_of_getElem? (i := 804) (by decide +kernel), List.mem_of_getElem? (i := 805) (by decide +kernel)⟩
theorem lw_p36 : lw_okq (⟨"MovedRegistersModel", "weightOf", "(II)I"⟩, 15) := ⟨⟨by decide +kernel, by decide +kernel⟩, List.mem_of_getElem? (i := 681) (by decide +kernel), List.mem_of_getElem? (i := 812) (by decide +kernel), List.mem_of_getElem? (i := 813) (by decide +kernel)⟩
theorem lw_p37 : lw_okq (⟨"MovedRegistersModel", "delayOf", "(II)I"⟩, 15) := ⟨⟨by decide +kernel, by decide +kernel⟩, List.mem_of_getElem? (i := 681) (by decide +kernel), List.mem_of_getElem? (i := 816) (by decide +kernel), List.mem_of_getElem? (i := 817) (by decide +kernel)⟩
theorem lw_p38 : lw_okq (⟨"MovedRegistersModel", "find", "(II)Z"⟩, 15) := ⟨⟨by decide +kernel, by decide +kernel⟩, List.mem_of_getElem? (i := 681) (by decide +kernel), List.mem_of_getElem? (i := 832) (by decide +kernel), List.mem_of_getElem? (i := 833) (by decide +kernel)⟩
theorem lw_p39 : lw_okq (⟨"MovedRegistersModel", "lowerAll", "(I)Z"⟩, 15) := ⟨⟨by decide +kernel, by decide +kernel⟩, List.mem_of_getElem? (i := 681) (by decide +kernel), List.mem_of_getElem? (i := 836) (by decide +kernel), List.mem_of_getElem? (i := 837) (by decide +kernel)⟩
theorem lw_p40 : lw_okq (⟨"MovedRegistersModel", "labelOf", "(I)I"⟩, 15) := ⟨⟨by decide +kernel, by decide +kernel⟩, List.mem_of_getElem? (i := 681) (by decide +kernel), List.mem_of_getElem? (i := 840) (by decide +kernel), List.mem_of_getElem? (i := 841) (by decide +kernel)⟩
theorem lw_p41 : lw_okq (⟨"MovedRegistersModel", "lower", "(II)Z"⟩, 15) := ⟨⟨by decide +kernel, by decide +kernel⟩, List.mem_of_getElem? (i := 681) (by decide +kernel), List.mem_of_getElem? (i := 844) (by decide +kernel), List.mem_of_getElem? (i := 845) (by decide +kernel)⟩
theorem lw_p42 : lw_okq (⟨"MovedRegistersModel", "follow", "()Z"⟩, 15) := ⟨⟨by decide +kernel, by decide +kernel⟩, List.mem_of_getElem? (i := 681) (by decide +kernel), List.mem_of_getElem? (i := 856) (by decide +kernel), List.mem_of_getElem? (i := 857) (by decide +kernel)⟩
theorem lw_p43 : lw_okq (⟨"MovedRegistersModel", "canForward", "(I)Z"⟩, 15) := ⟨⟨by decide +kernel, by decide +kernel⟩, List.mem_of_getElem? (i := 681) (by decide +kernel), List.mem_of_getElem? (i := 860) (by decide +kernel), List.mem_of_getElem? (i := 861) (by decide +kernel)⟩
theorem lw_p44 : lw_okq (⟨"MovedRegistersModel", "forward", "(I)V"⟩, 15) := ⟨⟨by decide +kernel, by decide +kernel⟩, List.mem_of_getElem? (i := 681) (by decide +kernel), List.mem_of_getElem? (i := 864) (by decide +kernel), List.mem_of_getElem? (i := 865) (by decide +kernel)⟩
theorem lw_p45 : lw_okq (⟨"MovedRegistersModel", "pull", "(I)I"⟩, 15) := ⟨⟨by decide +kernel, by decide +kernel⟩, List.mem_of_getElem? (i := 681) (by decide +kernel), List.mem_of_getElem? (i := 868) (by decide +kernel), List.mem_of_getElem? (i := 869) (by decide +kernel)⟩
theorem lw_p46 : lw_okq (⟨"MovedRegistersModel", "canBackward", "(I)Z"⟩, 15) := ⟨⟨by decide +kernel, by decide +kernel⟩, List.mem_of_getElem? (i := 681) (by decide +kernel), List.mem_of_getElem? (i := 875) (by decide +kernel), List.mem_of_getElem? (i := 876) (by decide +kernel)⟩
theorem lw_p47 : lw_okq (⟨"MovedRegistersModel", "backward", "(I)Z"⟩, 15) := ⟨⟨by decide +kernel, by decide +kernel⟩, List.mem_of_getElem? (i := 681) (by decide +kernel), List.mem_of_getElem? (i := 879) (by decide +kernel), List.mem_of_getElem? (i := 880) (by decide +kernel)⟩
def lw_privs_3 : List (MethodName × Nat) := [(⟨"MovedRegistersModel", "isWire", "(I)Z"⟩, 15), (⟨"MovedRegistersModel", "isSound", "()Z"⟩, 15), (⟨"MovedRegistersModel", "looped", "()Z"⟩, 15), (⟨"MovedRegistersModel", "measure", "()V"⟩, 15), (⟨"MovedRegistersModel", "weightOf", "(II)I"⟩, 15), (⟨"MovedRegistersModel", "delayOf", "(II)I"⟩, 15), (⟨"MovedRegistersModel", "find", "(II)Z"⟩, 15), (⟨"MovedRegistersModel", "lowerAll", "(I)Z"⟩, 15), (⟨"MovedRegistersModel", "labelOf", "(I)I"⟩, 15), (⟨"MovedRegistersModel", "lower", "(II)Z"⟩, 15), (⟨"MovedRegistersModel", "follow", "()Z"⟩, 15), (⟨"MovedRegistersModel", "canForward", "(I)Z"⟩, 15), (⟨"MovedRegistersModel", "forward", "(I)V"⟩, 15), (⟨"MovedRegistersModel", "pull", "(I)I"⟩, 15), (⟨"MovedRegistersModel", "canBackward", "(I)Z"⟩, 15), (⟨"MovedRegistersModel", "backward", "(I)Z"⟩, 15)]
theorem lw_r3 : ∀ q ∈ lw_privs_3, lw_okq q := List.forall_mem_cons.mpr ⟨lw_p32, List.forall_mem_cons.mpr ⟨lw_p33, List.forall_mem_cons.mpr ⟨lw_p34, List.forall_mem_cons.mpr ⟨lw_p35, List.forall_mem_cons.mpr ⟨lw_p36, List.forall_mem_cons.mpr ⟨lw_p37, List.forall_mem_cons.mpr ⟨lw_p38, List.forall_mem_cons.mpr ⟨lw_p39, List.forall_mem_cons.mpr ⟨lw_p40, List.forall_mem_cons.mpr ⟨lw_p41, List.forall_mem_cons.mpr ⟨lw_p42, List.forall_mem_cons.mpr ⟨lw_p43, List.forall_mem_cons.mpr ⟨lw_p44, List.forall_mem_cons.mpr ⟨lw_p45, List.forall_mem_cons.mpr ⟨lw_p46, List.forall_mem_cons.mpr ⟨lw_p47, fun _ h => absurd h List.not_mem_nil⟩⟩⟩⟩⟩⟩⟩⟩⟩⟩⟩⟩⟩⟩⟩⟩
theorem lw_p48 : lw_okq (⟨"MovedRegistersModel", "push", "(II)V"⟩, 15) := ⟨⟨by decide +kernel, by decide +kernel⟩, List.mem_of_getElem? (i := 681) (by decide +kernel), List.mem_of_getElem? (i := 883) (by decide +kernel), List.mem_of_getElem? (i := 884) (by decide +kernel)⟩
theorem lw_p49 : lw_okq (⟨"MovedRegistersModel", "input", "(IIII)I"⟩, 15) := ⟨⟨by decide +kernel, by decide +kernel⟩, List.mem_of_getElem? (i := 681) (by decide +kernel), List.mem_of_getElem? (i := 895) (by decide +kernel), List.mem_of_getElem? (i := 896) (by decide +kernel)⟩
def lw_privs_4 : List (MethodName × Nat) := [(⟨"MovedRegistersModel", "push", "(II)V"⟩, 15), (⟨"MovedRegistersModel", "input", "(IIII)I"⟩, 15)]
theorem lw_r4 : ∀ q ∈ lw_privs_4, lw_okq q := List.forall_mem_cons.mpr ⟨lw_p48, List.forall_mem_cons.mpr ⟨lw_p49, fun _ h => absurd h List.not_mem_nil⟩⟩
def lw_privs : List (MethodName × Nat) := lw_privs_1 ++ (lw_privs_2 ++ (lw_privs_3 ++ (lw_privs_4)))
def lw_tbl : List Cond := k2_sels lw_privs ++ tables_1
theorem lw_privs_ok : ∀ q ∈ lw_privs, lw_okq q := by
  show ∀ q ∈ lw_privs_1 ++ (lw_privs_2 ++ (lw_privs_3 ++ (lw_privs_4))), lw_okq q
  exact List.forall_mem_append.mpr ⟨lw_r1, List.forall_mem_append.mpr ⟨lw_r2, List.forall_mem_append.mpr ⟨lw_r3, lw_r4⟩⟩⟩
end
section
/-! The engine: a method's walk over a PICTURE (a list of numbered cells; a reference is a cell's number), every row one instruction; the machine's side conditions stand in mx_C once. -/
abbrev mx_J : Type := MethodName × ByteArray × Nat × Option FieldType
abbrev mx_O : Type := Option Value ⊕ Nat
def mx_v (q : Nat → Nat) : Value → Value
  | .ref k => .ref (q k)
  | .int x => .int x
  | .long x => .long x
  | .float x => .float x
  | .double x => .double x
  | .null => .null
  | .retAddr k => .retAddr k
theorem mx_v_cat (q : Nat → Nat) (v : Value) : (mx_v q v).category = v.category := by cases v <;> rfl
def mx_a (q : Nat → Nat) (a : vp_A) : vp_A := match a with
  | (n, .inl f) => (n, .inl f)
  | (n, .inr (.inl f)) => (n, .inr (.inl f))
  | (n, .inr (.inr (.inl f))) => (n, .inr (.inr (.inl f)))
  | (n, .inr (.inr (.inr (.inl f)))) => (n, .inr (.inr (.inr (.inl f))))
  | (n, .inr (.inr (.inr (.inr f)))) => (n, .inr (.inr (.inr (.inr (fun i => (f i).map q)))))
def mx_e (q : Nat → Nat) (dT : Nat → ClassId) (x : va_E) : va_E := match x with
  | .inl (t, a) => .inl (dT t, mx_a q a)
  | .inr (c, fs) => .inr (c, fs.map (mx_v q))
def mx_w (q : Nat → Nat) (dT : Nat → ClassId) (hp : List va_E) : va_W := hp.mapIdx (fun k x => (q k, mx_e q dT x))
theorem mx_w_get {q : Nat → Nat} {dT : Nat → ClassId} {hp : List va_E} {k : Nat} {x : va_E} (h : hp[k]? = some x) : (mx_w q dT hp)[k]? = some (q k, mx_e q dT x) := by
  simp [mx_w, List.getElem?_mapIdx, h]
theorem mx_w_set (q : Nat → Nat) (dT : Nat → ClassId) (hp : List va_E) (k : Nat) (x : va_E) : (mx_w q dT hp).set k (q k, mx_e q dT x) = mx_w q dT (hp.set k x) := by
  apply List.ext_getElem?
  intro i
  simp only [mx_w, List.getElem?_set, List.getElem?_mapIdx, List.length_mapIdx]
  by_cases h : k = i
  · subst h
    by_cases h2 : k < hp.length <;> simp [h2]
  · simp [h]
def mx_tys (dT : Nat → ClassId) : List (ClassId × FieldType) := [(dT 0, .int), (dT 1, .long), (dT 2, .boolean), (dT 3, .array .int)]
/-- the locals by place; .retAddr 0 stands where nothing is known -/
def mx_l (q : Nat → Nat) (ls : List Value) : List (Nat × Value) := (ls.mapIdx (fun i v => (i, v))).filterMap (fun x => match x.2 with
  | .retAddr _ => none
  | v => some (x.1, mx_v q v))
theorem mx_l_mem {q : Nat → Nat} {ls : List Value} {x : Nat × Value} : x ∈ mx_l q ls ↔ ∃ v, ls[x.1]? = some v ∧ (∀ k, v ≠ .retAddr k) ∧ x.2 = mx_v q v := by
  obtain ⟨i, w⟩ := x
  simp only [mx_l, List.mem_filterMap]
  constructor
  · rintro ⟨⟨j, v⟩, h1, h2⟩
    obtain ⟨n, h3⟩ := List.getElem?_of_mem h1
    rw [List.getElem?_mapIdx] at h3
    cases h4 : ls[n]? with
    | none => rw [h4] at h3; cases h3
    | some u =>
      rw [h4] at h3
      cases h3
      cases v <;> first | (cases h2; done) | (cases h2; exact ⟨_, h4, fun k => by simp, rfl⟩)
  · rintro ⟨v, h1, h2, h3⟩
    refine ⟨(i, v), ?_, ?_⟩
    · refine List.mem_of_getElem? (i := i) ?_
      rw [List.getElem?_mapIdx, h1]
      rfl
    · (try dsimp only at h3)
      subst h3
      cases v <;> first | rfl | exact absurd rfl (h2 _)
theorem mx_has_mono {ls : Array Slot} {n : Nat} {l l' : List (Nat × Value)} (h : lv_has ls n l) (hs : ∀ x ∈ l', x ∈ l) : lv_has ls n l' := ⟨h.1, h.2.1, fun x hx => h.2.2 x (hs x hx)⟩
theorem mx_at {q : Nat → Nat} {ls : List Value} {lsA : Array Slot} {n i : Nat} {v : Value} (h : lv_has lsA n (mx_l q ls)) (hi : ls[i]? = some v) (hv : ∀ k, v ≠ .retAddr k) : lsA[i]? = some (.val (mx_v q v)) := h.2.2 (i, mx_v q v) (mx_l_mem.mpr ⟨v, hi, hv, rfl⟩)
def mx_cat1 (ls : List Value) : Bool := ls.all (fun v => v.category == 1)
theorem mx_st1 {q : Nat → Nat} {ls : List Value} {i : Nat} {v : Value} (hc : mx_cat1 ls = true) : ∀ x ∈ mx_l q (ls.set i v), x ∈ (i, mx_v q v) :: (mx_l q ls).filter (fun z => !(z.1 == i) && !(z.1 + 1 == i && z.2.category == 2)) := by
  intro x hx
  obtain ⟨w, h1, h2, h3⟩ := mx_l_mem.mp hx
  by_cases h : x.1 = i
  · rw [h, List.getElem?_set] at h1
    simp only [if_true] at h1
    by_cases h5 : i < ls.length
    · simp only [h5, if_true] at h1
      cases h1
      obtain ⟨a, b⟩ := x
      dsimp only at h h3
      subst h; subst h3
      exact List.mem_cons_self
    · simp [h5] at h1
  · rw [List.getElem?_set, if_neg (fun e => h e.symm)] at h1
    refine List.mem_cons_of_mem _ (List.mem_filter.mpr ⟨mx_l_mem.mpr ⟨w, h1, h2, h3⟩, ?_⟩)
    have hw : w.category = 1 := by
      have := List.all_eq_true.mp hc w (List.mem_of_getElem? h1)
      simpa using this
    rw [h3, mx_v_cat, hw]
    simp [h]
theorem mx_st2 {q : Nat → Nat} {ls : List Value} {i : Nat} {v : Value} (hc : mx_cat1 ls = true) : ∀ x ∈ mx_l q ((ls.set i v).set (i + 1) (.retAddr 0)), x ∈ (i, mx_v q v) :: (mx_l q ls).filter (fun z => !(z.1 == i) && (!(z.1 == i + 1) && !(z.1 + 1 == i && z.2.category == 2))) := by
  intro x hx
  obtain ⟨w, h1, h2, h3⟩ := mx_l_mem.mp hx
  by_cases h6 : x.1 = i + 1
  · rw [h6, List.getElem?_set] at h1
    simp only [if_true, List.length_set] at h1
    by_cases h5 : i + 1 < ls.length
    · simp only [h5, if_true] at h1
      cases h1
      exact absurd rfl (h2 0)
    · simp [h5] at h1
  · rw [List.getElem?_set, if_neg (fun e => h6 e.symm)] at h1
    by_cases h : x.1 = i
    · rw [h, List.getElem?_set] at h1
      simp only [if_true] at h1
      by_cases h5 : i < ls.length
      · simp only [h5, if_true] at h1
        cases h1
        obtain ⟨a, b⟩ := x
        dsimp only at h h3
        subst h; subst h3
        exact List.mem_cons_self
      · simp [h5] at h1
    · rw [List.getElem?_set, if_neg (fun e => h e.symm)] at h1
      refine List.mem_cons_of_mem _ (List.mem_filter.mpr ⟨mx_l_mem.mpr ⟨w, h1, h2, h3⟩, ?_⟩)
      have hw : w.category = 1 := by
        have := List.all_eq_true.mp hc w (List.mem_of_getElem? h1)
        simpa using this
      rw [h3, mx_v_cat, hw]
      simp [h, h6]
/-- a static field of the library that holds a reference or null -/
def mx_Sf (C n d : String) (s : State) : Prop := ∃ (cf : ClassId) (kf : Class) (fi : Nat) (f : Field) (a : Nat) (cell : Cell) (v : Value), s.fieldFound? C n d = some (cf, kf, fi, f) ∧ f.isStatic = true ∧ kf.statics = some a ∧ s.heap[a]? = some cell ∧ cell.vm.isStatics = true ∧ cell.slots[f.slot]? = some v ∧ (v = .null ∨ ∃ t, v = .ref t) ∧ s.vm.findClass C = some cf ∧ cell.cls = cf ∧ f.slot < cell.slots.size ∧ kf.staticTypes[f.slot]? = some f.type
theorem mx_Sf_moved {C n d : String} {s U : State} (hvm : s.vm.Alike U.vm) (hk : ∀ (a : Nat) (cell : Cell), s.heap[a]? = some cell → cell.vm.isStatics = true → U.heap[a]? = some cell) (h : mx_Sf C n d s) : mx_Sf C n d U := by
  obtain ⟨cf, kf, fi, f, a, cell, v, h1, h2, h3, h4, h5, h6, h7, h8, h9, h10, h11⟩ := h
  obtain ⟨k', hi', he⟩ := State.fieldFound?_setVm hvm h1
  exact ⟨cf, k', fi, f, a, cell, v, hi', h2, by rw [he]; exact h3, hk a cell h4 h5, h5, h6, h7, by rw [hvm.findClass]; exact h8, h9, h10, by rw [he]; exact h11⟩
/-- what a throw needs beside the words: no stack traces, the two statics of Throwable -/
def mx_Z0 (l : Launch) (s : State) : Prop := (∀ e : Env, l.admits e → e.platform.stackTraces = false) ∧ mx_Sf "java/lang/Throwable" "UNASSIGNED_STACK" "[Ljava/lang/StackTraceElement;" s ∧ mx_Sf "java/lang/Throwable" "SUPPRESSED_SENTINEL" "Ljava/util/List;" s
theorem mx_Z0_moved {l : Launch} {s U : State} (hvm : s.vm.Alike U.vm) (hk : ∀ (a : Nat) (cell : Cell), s.heap[a]? = some cell → cell.vm.isStatics = true → U.heap[a]? = some cell) (h : mx_Z0 l s) : mx_Z0 l U := ⟨h.1, mx_Sf_moved hvm hk h.2.1, mx_Sf_moved hvm hk h.2.2⟩
/-- what stays the same through one run of a method -/
def mx_C (T : List Cond) (cl : List vw_C) (J : mx_J) (l : Launch) (p : Program) (s : State) (m : MethodId) (args : Array Value) (meth : Method) (c : Code) (D : va_G) (dT : Nat → ClassId) (A : Nat → Prop) : Prop :=
  p.tables.exec = Jvm.exec ∧ c.code = J.2.1 ∧ meth.sig.returnType = J.2.2.2 ∧ c.maxLocals = J.2.2.1 ∧ s.vm.findClass J.1.cls = some m.cls ∧ (∀ w ∈ T, w.before args s = true) ∧ va_K D cl (mx_tys dT) s ∧ meth.locks = false ∧ (∀ r : Nat, s.heap.size ≤ r → A r) ∧ (∀ r : Nat, A r → ∀ cell : Cell, s.heap[r]? = some cell → cell.vm.isStatics = false) ∧ mx_Z0 l s ∧ c.exceptionTable.isEmpty = true
/-- how a run ends: an answer (nothing new in the heap), or an exception of the kind X (one new cell) -/
def mx_end (q : Nat → Nat) (A : Nat → Prop) (K : Nat → Addr → State → State → Prop) (s : State) (o : Outcome) (r : mx_O) (t : State) : Prop := match r with
  | .inl v => o = .returned (v.map (mx_v q)) ∧ ∃ L, FrameEnd s o t L 0 0 ∧ ∀ x ∈ L, A x.base
  | .inr X => ∃ a, o = .threw a ∧ K X a s t ∧ ∃ L, FramedT s o t L 1 6 ∧ ∀ x ∈ L, A x.base
def mx_Z (K : Nat → Addr → State → State → Prop) (D : va_G) (cl : List vw_C) (dT : Nat → ClassId) (q : Nat → Nat) (A : Nat → Prop) (Q : mx_O → List va_E → Prop) (below : List Frame) (s : State) : State → Prop := fun t =>
  ∃ (o : Outcome) (r : mx_O) (hp' : List va_E), t.status = .running ∧ Ended t below o ∧ Q r hp' ∧ va_P D cl (mx_w q dT hp') t.heap ∧ va_D A (mx_w q dT hp') ∧ va_F A s t ∧ mx_end q A K s o r t
/-- THE JUDGEMENT: from place k of method J, with locals ls, stack st, picture hp, the run comes to an end with Q -/
def mx_W (K : Nat → Addr → State → State → Prop) (T : List Cond) (cl : List vw_C) (J : mx_J) (R : Room) (k : Nat) (ls st : List Value) (hp : List va_E) (Q : mx_O → List va_E → Prop) : Prop :=
  ∀ (l : Launch) (p : Program) (e : Env) (s : State) (m : MethodId) (args : Array Value) (below : List Frame) (meth : Method) (c : Code) (D : va_G) (dT : Nat → ClassId) (q : Nat → Nat) (A : Nat → Prop) (H : Heap) (locs : List Loc) (lsA : Array Slot),
    mx_C T cl J l p s m args meth c D dT A → lv_has lsA J.2.2.1 (mx_l q ls) → va_P D cl (mx_w q dT hp) H → va_D A (mx_w q dT hp) → va_S A s.heap H locs →
    W p l e R s m args below meth c H locs 0 0 (mx_Z K D cl dT q A Q below s) (F0 m k lsA (st.map (mx_v q)))
theorem mx_Wmono {p : Program} {l : Launch} {e : Env} {R : Room} {s : State} {m : MethodId} {args : Array Value} {below : List Frame} {meth : Method} {c : Code} {H : Heap} {locs : List Loc} {cells slots : Nat} {Q Q' : State → Prop} {g : JFrame} (h : ∀ t, Q t → Q' t) (k : W p l e R s m args below meth c H locs cells slots Q g) : W p l e R s m args below meth c H locs cells slots Q' g := fun T hT X => by
  obtain ⟨t, a, b⟩ := k T hT X
  exact ⟨t, a, h t b⟩
section MX
variable {K : Nat → Addr → State → State → Prop} {T : List Cond} {cl : List vw_C} {J : mx_J} {R : Room} {k : Nat} {ls rest : List Value} {hp : List va_E} {Q : mx_O → List va_E → Prop}
theorem mx_post {Q' : mx_O → List va_E → Prop} {st : List Value} (h : ∀ r hp', Q r hp' → Q' r hp') (kk : mx_W K T cl J R k ls st hp Q) : mx_W K T cl J R k ls st hp Q' := by
  intro l p e s m args below meth c D dT q A H locs lsA hC hl hP hD hS
  refine mx_Wmono ?_ (kk l p e s m args below meth c D dT q A H locs lsA hC hl hP hD hS)
  intro t ht
  obtain ⟨o, r, hp', h1, h2, h3, h4⟩ := ht
  exact ⟨o, r, hp', h1, h2, h _ _ h3, h4⟩
theorem mx_eqs {k' : Nat} {ls' st st' : List Value} {hp' : List va_E} (h1 : k = k') (h2 : ls = ls') (h3 : st = st') (h4 : hp = hp') (kk : mx_W K T cl J R k' ls' st' hp' Q) : mx_W K T cl J R k ls st hp Q := by
  subst h1; subst h2; subst h3; subst h4; exact kk
theorem mx_iconst {n : Int} (x : Int32) (hd : decode J.2.1 k = .ok (.iconst n, 1)) (hv : Int32.ofInt n = x)
    (kk : mx_W K T cl J R (k + 1) ls (.int x :: rest) hp Q) : mx_W K T cl J R k ls (rest) hp Q := by
  intro l p e s m args below meth c D dT q A H locs lsA hC hl hP hD hS
  exact lv_iconst hC.1 hC.2.1 hd hv (kk l p e s m args below meth c D dT q A H locs lsA hC hl hP hD hS)
theorem mx_bipush {n : Int} (x : Int32) (hd : decode J.2.1 k = .ok (.bipush n, 2)) (hv : (Int8.ofInt n).toInt32 = x)
    (kk : mx_W K T cl J R (k + 2) ls (.int x :: rest) hp Q) : mx_W K T cl J R k ls (rest) hp Q := by
  intro l p e s m args below meth c D dT q A H locs lsA hC hl hP hD hS
  exact lv_bipush hC.1 hC.2.1 hd hv (kk l p e s m args below meth c D dT q A H locs lsA hC hl hP hD hS)
theorem mx_sipush {n : Int} (x : Int32) (hd : decode J.2.1 k = .ok (.sipush n, 3)) (hv : (Int16.ofInt n).toInt32 = x)
    (kk : mx_W K T cl J R (k + 3) ls (.int x :: rest) hp Q) : mx_W K T cl J R k ls (rest) hp Q := by
  intro l p e s m args below meth c D dT q A H locs lsA hC hl hP hD hS
  exact lv_sipush hC.1 hC.2.1 hd hv (kk l p e s m args below meth c D dT q A H locs lsA hC hl hP hD hS)
theorem mx_lconst {n : Fin 2} (x : Int64) (hd : decode J.2.1 k = .ok (.lconst n, 1)) (hv : Int64.ofNat (n : Nat) = x)
    (kk : mx_W K T cl J R (k + 1) ls (.long x :: rest) hp Q) : mx_W K T cl J R k ls (rest) hp Q := by
  intro l p e s m args below meth c D dT q A H locs lsA hC hl hP hD hS
  exact lv_lconst hC.1 hC.2.1 hd hv (kk l p e s m args below meth c D dT q A H locs lsA hC hl hP hD hS)
theorem mx_iload_n {n : Fin 4} {x : Int32} (hd : decode J.2.1 k = .ok (.iload_n n, 1)) (hi : ls[(n : Nat)]? = some (.int x))
    (kk : mx_W K T cl J R (k + 1) ls (.int x :: rest) hp Q) : mx_W K T cl J R k ls rest hp Q := by
  intro l p e s m args below meth c D dT q A H locs lsA hC hl hP hD hS
  exact lv_iload_n hC.1 hC.2.1 hd rfl (mx_at hl hi (fun _ => by simp)) (kk l p e s m args below meth c D dT q A H locs lsA hC hl hP hD hS)
theorem mx_iload {i : Nat} {x : Int32} (hd : decode J.2.1 k = .ok (.iload i, 2)) (hi : ls[i]? = some (.int x))
    (kk : mx_W K T cl J R (k + 2) ls (.int x :: rest) hp Q) : mx_W K T cl J R k ls rest hp Q := by
  intro l p e s m args below meth c D dT q A H locs lsA hC hl hP hD hS
  exact lv_iload hC.1 hC.2.1 hd (mx_at hl hi (fun _ => by simp)) (kk l p e s m args below meth c D dT q A H locs lsA hC hl hP hD hS)
theorem mx_lload_n {n : Fin 4} {x : Int64} (hd : decode J.2.1 k = .ok (.lload_n n, 1)) (hi : ls[(n : Nat)]? = some (.long x))
    (kk : mx_W K T cl J R (k + 1) ls (.long x :: rest) hp Q) : mx_W K T cl J R k ls rest hp Q := by
  intro l p e s m args below meth c D dT q A H locs lsA hC hl hP hD hS
  exact lv_lload_n hC.1 hC.2.1 hd rfl (mx_at hl hi (fun _ => by simp)) (kk l p e s m args below meth c D dT q A H locs lsA hC hl hP hD hS)
theorem mx_lload {i : Nat} {x : Int64} (hd : decode J.2.1 k = .ok (.lload i, 2)) (hi : ls[i]? = some (.long x))
    (kk : mx_W K T cl J R (k + 2) ls (.long x :: rest) hp Q) : mx_W K T cl J R k ls rest hp Q := by
  intro l p e s m args below meth c D dT q A H locs lsA hC hl hP hD hS
  exact lv_lload hC.1 hC.2.1 hd (mx_at hl hi (fun _ => by simp)) (kk l p e s m args below meth c D dT q A H locs lsA hC hl hP hD hS)
theorem mx_aload_n {n : Fin 4} {x : Nat} (hd : decode J.2.1 k = .ok (.aload_n n, 1)) (hi : ls[(n : Nat)]? = some (.ref x))
    (kk : mx_W K T cl J R (k + 1) ls (.ref x :: rest) hp Q) : mx_W K T cl J R k ls rest hp Q := by
  intro l p e s m args below meth c D dT q A H locs lsA hC hl hP hD hS
  exact lv_aload_n hC.1 hC.2.1 hd rfl (mx_at hl hi (fun _ => by simp)) (kk l p e s m args below meth c D dT q A H locs lsA hC hl hP hD hS)
theorem mx_aload {i : Nat} {x : Nat} (hd : decode J.2.1 k = .ok (.aload i, 2)) (hi : ls[i]? = some (.ref x))
    (kk : mx_W K T cl J R (k + 2) ls (.ref x :: rest) hp Q) : mx_W K T cl J R k ls rest hp Q := by
  intro l p e s m args below meth c D dT q A H locs lsA hC hl hP hD hS
  exact lv_aload hC.1 hC.2.1 hd (mx_at hl hi (fun _ => by simp)) (kk l p e s m args below meth c D dT q A H locs lsA hC hl hP hD hS)
theorem mx_istore_n {n : Fin 4} {x : Int32} (hd : decode J.2.1 k = .ok (.istore_n n, 1)) (hn : (n : Nat) < J.2.2.1) (hc : mx_cat1 ls = true)
    (kk : mx_W K T cl J R (k + 1) (ls.set (n : Nat) (.int x)) rest hp Q) : mx_W K T cl J R k ls (.int x :: rest) hp Q := by
  intro l p e s m args below meth c D dT q A H locs lsA hC hl hP hD hS
  exact lv_istore_n hC.1 hC.2.1 hd rfl hl hn rfl (fun lsB hB => kk l p e s m args below meth c D dT q A H locs lsB hC (mx_has_mono hB (mx_st1 (v := .int x) hc)) hP hD hS)
theorem mx_istore {i : Nat} {x : Int32} (hd : decode J.2.1 k = .ok (.istore i, 2)) (hn : i < J.2.2.1) (hc : mx_cat1 ls = true)
    (kk : mx_W K T cl J R (k + 2) (ls.set i (.int x)) rest hp Q) : mx_W K T cl J R k ls (.int x :: rest) hp Q := by
  intro l p e s m args below meth c D dT q A H locs lsA hC hl hP hD hS
  exact lv_istore hC.1 hC.2.1 hd hl hn rfl (fun lsB hB => kk l p e s m args below meth c D dT q A H locs lsB hC (mx_has_mono hB (mx_st1 (v := .int x) hc)) hP hD hS)
theorem mx_astore_n {n : Fin 4} {x : Nat} (hd : decode J.2.1 k = .ok (.astore_n n, 1)) (hn : (n : Nat) < J.2.2.1) (hc : mx_cat1 ls = true)
    (kk : mx_W K T cl J R (k + 1) (ls.set (n : Nat) (.ref x)) rest hp Q) : mx_W K T cl J R k ls (.ref x :: rest) hp Q := by
  intro l p e s m args below meth c D dT q A H locs lsA hC hl hP hD hS
  exact lv_astore_n hC.1 hC.2.1 hd rfl hl hn rfl (fun lsB hB => kk l p e s m args below meth c D dT q A H locs lsB hC (mx_has_mono hB (mx_st1 (v := .ref x) hc)) hP hD hS)
theorem mx_astore {i : Nat} {x : Nat} (hd : decode J.2.1 k = .ok (.astore i, 2)) (hn : i < J.2.2.1) (hc : mx_cat1 ls = true)
    (kk : mx_W K T cl J R (k + 2) (ls.set i (.ref x)) rest hp Q) : mx_W K T cl J R k ls (.ref x :: rest) hp Q := by
  intro l p e s m args below meth c D dT q A H locs lsA hC hl hP hD hS
  exact lv_astore hC.1 hC.2.1 hd hl hn rfl (fun lsB hB => kk l p e s m args below meth c D dT q A H locs lsB hC (mx_has_mono hB (mx_st1 (v := .ref x) hc)) hP hD hS)
theorem mx_lstore_n {n : Fin 4} {x : Int64} (hd : decode J.2.1 k = .ok (.lstore_n n, 1)) (hn : (n : Nat) + 1 < J.2.2.1) (hc : mx_cat1 ls = true)
    (kk : mx_W K T cl J R (k + 1) ((ls.set (n : Nat) (.long x)).set ((n : Nat) + 1) (.retAddr 0)) rest hp Q) : mx_W K T cl J R k ls (.long x :: rest) hp Q := by
  intro l p e s m args below meth c D dT q A H locs lsA hC hl hP hD hS
  exact lv_lstore_n hC.1 hC.2.1 hd rfl hl hn rfl (fun lsB hB => kk l p e s m args below meth c D dT q A H locs lsB hC (mx_has_mono hB (mx_st2 (v := .long x) hc)) hP hD hS)
theorem mx_lstore {i : Nat} {x : Int64} (hd : decode J.2.1 k = .ok (.lstore i, 2)) (hn : i + 1 < J.2.2.1) (hc : mx_cat1 ls = true)
    (kk : mx_W K T cl J R (k + 2) ((ls.set i (.long x)).set (i + 1) (.retAddr 0)) rest hp Q) : mx_W K T cl J R k ls (.long x :: rest) hp Q := by
  intro l p e s m args below meth c D dT q A H locs lsA hC hl hP hD hS
  exact lv_lstore hC.1 hC.2.1 hd hl hn rfl (fun lsB hB => kk l p e s m args below meth c D dT q A H locs lsB hC (mx_has_mono hB (mx_st2 (v := .long x) hc)) hP hD hS)
theorem mx_iinc {i : Nat} {n : Int} {x y : Int32} (hd : decode J.2.1 k = .ok (.iinc i n, 3)) (hi : ls[i]? = some (.int x)) (hv : x + Int32.ofInt n = y) (hn : i < J.2.2.1) (hc : mx_cat1 ls = true)
    (kk : mx_W K T cl J R (k + 3) (ls.set i (.int y)) rest hp Q) : mx_W K T cl J R k ls rest hp Q := by
  intro l p e s m args below meth c D dT q A H locs lsA hC hl hP hD hS
  obtain ⟨j, hj⟩ := List.getElem?_of_mem (mx_l_mem (q := q).mpr ⟨_, hi, (fun _ => by simp), rfl⟩ : (i, Value.int x) ∈ mx_l q ls)
  exact lv_iinc hC.1 hC.2.1 hd hl hj hv hn rfl (fun lsB hB => kk l p e s m args below meth c D dT q A H locs lsB hC (mx_has_mono hB (mx_st1 (v := .int y) hc)) hP hD hS)
theorem mx_iadd {x y : Int32} (hd : decode J.2.1 k = .ok (.iadd, 1)) 
    (kk : mx_W K T cl J R (k + 1) ls (.int (x + y) :: rest) hp Q) : mx_W K T cl J R k ls (.int y :: .int x :: rest) hp Q := by
  intro l p e s m args below meth c D dT q A H locs lsA hC hl hP hD hS
  exact lv_iadd hC.1 hC.2.1 hd  (kk l p e s m args below meth c D dT q A H locs lsA hC hl hP hD hS)
theorem mx_isub {x y : Int32} (hd : decode J.2.1 k = .ok (.isub, 1)) 
    (kk : mx_W K T cl J R (k + 1) ls (.int (x - y) :: rest) hp Q) : mx_W K T cl J R k ls (.int y :: .int x :: rest) hp Q := by
  intro l p e s m args below meth c D dT q A H locs lsA hC hl hP hD hS
  exact lv_isub hC.1 hC.2.1 hd  (kk l p e s m args below meth c D dT q A H locs lsA hC hl hP hD hS)
theorem mx_imul {x y : Int32} (hd : decode J.2.1 k = .ok (.imul, 1)) 
    (kk : mx_W K T cl J R (k + 1) ls (.int (x * y) :: rest) hp Q) : mx_W K T cl J R k ls (.int y :: .int x :: rest) hp Q := by
  intro l p e s m args below meth c D dT q A H locs lsA hC hl hP hD hS
  exact lv_imul hC.1 hC.2.1 hd  (kk l p e s m args below meth c D dT q A H locs lsA hC hl hP hD hS)
theorem mx_iand {x y : Int32} (hd : decode J.2.1 k = .ok (.iand, 1)) 
    (kk : mx_W K T cl J R (k + 1) ls (.int (x &&& y) :: rest) hp Q) : mx_W K T cl J R k ls (.int y :: .int x :: rest) hp Q := by
  intro l p e s m args below meth c D dT q A H locs lsA hC hl hP hD hS
  exact lv_iand hC.1 hC.2.1 hd  (kk l p e s m args below meth c D dT q A H locs lsA hC hl hP hD hS)
theorem mx_ior {x y : Int32} (hd : decode J.2.1 k = .ok (.ior, 1)) 
    (kk : mx_W K T cl J R (k + 1) ls (.int (x ||| y) :: rest) hp Q) : mx_W K T cl J R k ls (.int y :: .int x :: rest) hp Q := by
  intro l p e s m args below meth c D dT q A H locs lsA hC hl hP hD hS
  exact lv_ior hC.1 hC.2.1 hd  (kk l p e s m args below meth c D dT q A H locs lsA hC hl hP hD hS)
theorem mx_ixor {x y : Int32} (hd : decode J.2.1 k = .ok (.ixor, 1)) 
    (kk : mx_W K T cl J R (k + 1) ls (.int (x ^^^ y) :: rest) hp Q) : mx_W K T cl J R k ls (.int y :: .int x :: rest) hp Q := by
  intro l p e s m args below meth c D dT q A H locs lsA hC hl hP hD hS
  exact lv_ixor hC.1 hC.2.1 hd  (kk l p e s m args below meth c D dT q A H locs lsA hC hl hP hD hS)
theorem mx_ladd {x y : Int64} (hd : decode J.2.1 k = .ok (.ladd, 1)) 
    (kk : mx_W K T cl J R (k + 1) ls (.long (x + y) :: rest) hp Q) : mx_W K T cl J R k ls (.long y :: .long x :: rest) hp Q := by
  intro l p e s m args below meth c D dT q A H locs lsA hC hl hP hD hS
  exact lv_ladd hC.1 hC.2.1 hd  (kk l p e s m args below meth c D dT q A H locs lsA hC hl hP hD hS)
theorem mx_land {x y : Int64} (hd : decode J.2.1 k = .ok (.land, 1)) 
    (kk : mx_W K T cl J R (k + 1) ls (.long (x &&& y) :: rest) hp Q) : mx_W K T cl J R k ls (.long y :: .long x :: rest) hp Q := by
  intro l p e s m args below meth c D dT q A H locs lsA hC hl hP hD hS
  exact lv_land hC.1 hC.2.1 hd  (kk l p e s m args below meth c D dT q A H locs lsA hC hl hP hD hS)
theorem mx_lor {x y : Int64} (hd : decode J.2.1 k = .ok (.lor, 1)) 
    (kk : mx_W K T cl J R (k + 1) ls (.long (x ||| y) :: rest) hp Q) : mx_W K T cl J R k ls (.long y :: .long x :: rest) hp Q := by
  intro l p e s m args below meth c D dT q A H locs lsA hC hl hP hD hS
  exact lv_lor hC.1 hC.2.1 hd  (kk l p e s m args below meth c D dT q A H locs lsA hC hl hP hD hS)
theorem mx_lxor {x y : Int64} (hd : decode J.2.1 k = .ok (.lxor, 1)) 
    (kk : mx_W K T cl J R (k + 1) ls (.long (x ^^^ y) :: rest) hp Q) : mx_W K T cl J R k ls (.long y :: .long x :: rest) hp Q := by
  intro l p e s m args below meth c D dT q A H locs lsA hC hl hP hD hS
  exact lv_lxor hC.1 hC.2.1 hd  (kk l p e s m args below meth c D dT q A H locs lsA hC hl hP hD hS)
theorem mx_i2l {x : Int32} {y : Int64} (hd : decode J.2.1 k = .ok (.i2l, 1)) (hv : x.toInt64 = y)
    (kk : mx_W K T cl J R (k + 1) ls (.long y :: rest) hp Q) : mx_W K T cl J R k ls (.int x :: rest) hp Q := by
  intro l p e s m args below meth c D dT q A H locs lsA hC hl hP hD hS
  exact lv_i2l hC.1 hC.2.1 hd hv (kk l p e s m args below meth c D dT q A H locs lsA hC hl hP hD hS)
theorem mx_l2i {x : Int64} {y : Int32} (hd : decode J.2.1 k = .ok (.l2i, 1)) (hv : x.toInt32 = y)
    (kk : mx_W K T cl J R (k + 1) ls (.int y :: rest) hp Q) : mx_W K T cl J R k ls (.long x :: rest) hp Q := by
  intro l p e s m args below meth c D dT q A H locs lsA hC hl hP hD hS
  exact lv_l2i hC.1 hC.2.1 hd hv (kk l p e s m args below meth c D dT q A H locs lsA hC hl hP hD hS)
theorem mx_lushr {x z : Int64} {y : Int32} (hd : decode J.2.1 k = .ok (.lushr, 1)) (hv : (x.toUInt64 >>> (y.toInt64.toUInt64 &&& Int64.toUInt64 63)).toInt64 = z)
    (kk : mx_W K T cl J R (k + 1) ls (.long z :: rest) hp Q) : mx_W K T cl J R k ls (.int y :: .long x :: rest) hp Q := by
  intro l p e s m args below meth c D dT q A H locs lsA hC hl hP hD hS
  exact lv_lushr hC.1 hC.2.1 hd hv (kk l p e s m args below meth c D dT q A H locs lsA hC hl hP hD hS)
theorem mx_lshl {x z : Int64} {y : Int32} (hd : decode J.2.1 k = .ok (.lshl, 1)) (hv : x <<< (y.toInt64 &&& 63) = z)
    (kk : mx_W K T cl J R (k + 1) ls (.long z :: rest) hp Q) : mx_W K T cl J R k ls (.int y :: .long x :: rest) hp Q := by
  intro l p e s m args below meth c D dT q A H locs lsA hC hl hP hD hS
  exact lv_lshl hC.1 hC.2.1 hd hv (kk l p e s m args below meth c D dT q A H locs lsA hC hl hP hD hS)
theorem mx_ineg {x : Int32} (hd : decode J.2.1 k = .ok (.ineg, 1)) 
    (kk : mx_W K T cl J R (k + 1) ls (.int (-x) :: rest) hp Q) : mx_W K T cl J R k ls (.int x :: rest) hp Q := by
  intro l p e s m args below meth c D dT q A H locs lsA hC hl hP hD hS
  exact lv_ineg hC.1 hC.2.1 hd  (kk l p e s m args below meth c D dT q A H locs lsA hC hl hP hD hS)
theorem mx_ishl {x y : Int32} (hd : decode J.2.1 k = .ok (.ishl, 1)) 
    (kk : mx_W K T cl J R (k + 1) ls (.int (x <<< (y &&& 31)) :: rest) hp Q) : mx_W K T cl J R k ls (.int y :: .int x :: rest) hp Q := by
  intro l p e s m args below meth c D dT q A H locs lsA hC hl hP hD hS
  exact lv_ishl hC.1 hC.2.1 hd  (kk l p e s m args below meth c D dT q A H locs lsA hC hl hP hD hS)
theorem mx_ishr {x y : Int32} (hd : decode J.2.1 k = .ok (.ishr, 1)) 
    (kk : mx_W K T cl J R (k + 1) ls (.int (x >>> (y &&& 31)) :: rest) hp Q) : mx_W K T cl J R k ls (.int y :: .int x :: rest) hp Q := by
  intro l p e s m args below meth c D dT q A H locs lsA hC hl hP hD hS
  exact lv_ishr hC.1 hC.2.1 hd  (kk l p e s m args below meth c D dT q A H locs lsA hC hl hP hD hS)
theorem mx_idiv {x y : Int32} (hd : decode J.2.1 k = .ok (.idiv, 1)) (hne : ¬ y = 0)
    (kk : mx_W K T cl J R (k + 1) ls (.int (x / y) :: rest) hp Q) : mx_W K T cl J R k ls (.int y :: .int x :: rest) hp Q := by
  intro l p e s m args below meth c D dT q A H locs lsA hC hl hP hD hS
  exact lv_idiv hC.1 hC.2.1 hd hne (kk l p e s m args below meth c D dT q A H locs lsA hC hl hP hD hS)
theorem mx_dup {v : Value} (hd : decode J.2.1 k = .ok (.dup, 1)) (hv : v.category = 1)
    (kk : mx_W K T cl J R (k + 1) ls (v :: v :: rest) hp Q) : mx_W K T cl J R k ls (v :: rest) hp Q := by
  intro l p e s m args below meth c D dT q A H locs lsA hC hl hP hD hS
  exact lv_dup hC.1 hC.2.1 hd ((mx_v_cat q v).trans hv) (kk l p e s m args below meth c D dT q A H locs lsA hC hl hP hD hS)
theorem mx_pop {v : Value} (hd : decode J.2.1 k = .ok (.pop, 1)) (hv : v.category = 1)
    (kk : mx_W K T cl J R (k + 1) ls rest hp Q) : mx_W K T cl J R k ls (v :: rest) hp Q := by
  intro l p e s m args below meth c D dT q A H locs lsA hC hl hP hD hS
  exact lv_pop hC.1 hC.2.1 hd ((mx_v_cat q v).trans hv) (kk l p e s m args below meth c D dT q A H locs lsA hC hl hP hD hS)
theorem mx_dup_x1 {v u : Value} (hd : decode J.2.1 k = .ok (.dup_x1, 1)) (hv : v.category = 1) (hu : u.category = 1)
    (kk : mx_W K T cl J R (k + 1) ls (v :: u :: v :: rest) hp Q) : mx_W K T cl J R k ls (v :: u :: rest) hp Q := by
  intro l p e s m args below meth c D dT q A H locs lsA hC hl hP hD hS
  exact lv_dup_x1 hC.1 hC.2.1 hd ((mx_v_cat q v).trans hv) ((mx_v_cat q u).trans hu) (kk l p e s m args below meth c D dT q A H locs lsA hC hl hP hD hS)
theorem mx_dup_x2 {v u z : Value} (hd : decode J.2.1 k = .ok (.dup_x2, 1)) (hv : v.category = 1) (hu : u.category = 1) (hz : z.category = 1)
    (kk : mx_W K T cl J R (k + 1) ls (v :: u :: z :: v :: rest) hp Q) : mx_W K T cl J R k ls (v :: u :: z :: rest) hp Q := by
  intro l p e s m args below meth c D dT q A H locs lsA hC hl hP hD hS
  exact lv_dup_x2 hC.1 hC.2.1 hd ((mx_v_cat q v).trans hv) ((mx_v_cat q u).trans hu) ((mx_v_cat q z).trans hz) (kk l p e s m args below meth c D dT q A H locs lsA hC hl hP hD hS)
theorem mx_dup2 {v u : Value} (hd : decode J.2.1 k = .ok (.dup2, 1)) (hv : v.category = 1) (hu : u.category = 1)
    (kk : mx_W K T cl J R (k + 1) ls (v :: u :: v :: u :: rest) hp Q) : mx_W K T cl J R k ls (v :: u :: rest) hp Q := by
  intro l p e s m args below meth c D dT q A H locs lsA hC hl hP hD hS
  exact lv_dup2_11 hC.1 hC.2.1 hd ((mx_v_cat q v).trans hv) ((mx_v_cat q u).trans hu) (kk l p e s m args below meth c D dT q A H locs lsA hC hl hP hD hS)
theorem mx_if_eq {x : Int32} {off : Int} (tgt : Nat) (hd : decode J.2.1 k = .ok (.ifCond .eq off, 3)) (ht : (k : Int) + off = (tgt : Int))
    (kt : x = 0 → mx_W K T cl J R tgt ls rest hp Q) (kf : ¬ x = 0 → mx_W K T cl J R (k + 3) ls rest hp Q) : mx_W K T cl J R k ls (.int x :: rest) hp Q := by
  intro l p e s m args below meth c D dT q A H locs lsA hC hl hP hD hS
  exact lv_if_eq hC.1 hC.2.1 hd ht (fun h9 => kt h9 l p e s m args below meth c D dT q A H locs lsA hC hl hP hD hS) (fun h9 => kf h9 l p e s m args below meth c D dT q A H locs lsA hC hl hP hD hS)
theorem mx_icmp_eq {x y : Int32} {off : Int} (tgt : Nat) (hd : decode J.2.1 k = .ok (.if_icmp .eq off, 3)) (ht : (k : Int) + off = (tgt : Int))
    (kt : x = y → mx_W K T cl J R tgt ls rest hp Q) (kf : ¬ x = y → mx_W K T cl J R (k + 3) ls rest hp Q) : mx_W K T cl J R k ls (.int y :: .int x :: rest) hp Q := by
  intro l p e s m args below meth c D dT q A H locs lsA hC hl hP hD hS
  exact lv_icmp_eq hC.1 hC.2.1 hd ht (fun h9 => kt h9 l p e s m args below meth c D dT q A H locs lsA hC hl hP hD hS) (fun h9 => kf h9 l p e s m args below meth c D dT q A H locs lsA hC hl hP hD hS)
theorem mx_if_ne {x : Int32} {off : Int} (tgt : Nat) (hd : decode J.2.1 k = .ok (.ifCond .ne off, 3)) (ht : (k : Int) + off = (tgt : Int))
    (kt : ¬ x = 0 → mx_W K T cl J R tgt ls rest hp Q) (kf : x = 0 → mx_W K T cl J R (k + 3) ls rest hp Q) : mx_W K T cl J R k ls (.int x :: rest) hp Q := by
  intro l p e s m args below meth c D dT q A H locs lsA hC hl hP hD hS
  exact lv_if_ne hC.1 hC.2.1 hd ht (fun h9 => kt h9 l p e s m args below meth c D dT q A H locs lsA hC hl hP hD hS) (fun h9 => kf h9 l p e s m args below meth c D dT q A H locs lsA hC hl hP hD hS)
theorem mx_icmp_ne {x y : Int32} {off : Int} (tgt : Nat) (hd : decode J.2.1 k = .ok (.if_icmp .ne off, 3)) (ht : (k : Int) + off = (tgt : Int))
    (kt : ¬ x = y → mx_W K T cl J R tgt ls rest hp Q) (kf : x = y → mx_W K T cl J R (k + 3) ls rest hp Q) : mx_W K T cl J R k ls (.int y :: .int x :: rest) hp Q := by
  intro l p e s m args below meth c D dT q A H locs lsA hC hl hP hD hS
  exact lv_icmp_ne hC.1 hC.2.1 hd ht (fun h9 => kt h9 l p e s m args below meth c D dT q A H locs lsA hC hl hP hD hS) (fun h9 => kf h9 l p e s m args below meth c D dT q A H locs lsA hC hl hP hD hS)
theorem mx_if_lt {x : Int32} {off : Int} (tgt : Nat) (hd : decode J.2.1 k = .ok (.ifCond .lt off, 3)) (ht : (k : Int) + off = (tgt : Int))
    (kt : x < 0 → mx_W K T cl J R tgt ls rest hp Q) (kf : ¬ x < 0 → mx_W K T cl J R (k + 3) ls rest hp Q) : mx_W K T cl J R k ls (.int x :: rest) hp Q := by
  intro l p e s m args below meth c D dT q A H locs lsA hC hl hP hD hS
  exact lv_if_lt hC.1 hC.2.1 hd ht (fun h9 => kt h9 l p e s m args below meth c D dT q A H locs lsA hC hl hP hD hS) (fun h9 => kf h9 l p e s m args below meth c D dT q A H locs lsA hC hl hP hD hS)
theorem mx_icmp_lt {x y : Int32} {off : Int} (tgt : Nat) (hd : decode J.2.1 k = .ok (.if_icmp .lt off, 3)) (ht : (k : Int) + off = (tgt : Int))
    (kt : x < y → mx_W K T cl J R tgt ls rest hp Q) (kf : ¬ x < y → mx_W K T cl J R (k + 3) ls rest hp Q) : mx_W K T cl J R k ls (.int y :: .int x :: rest) hp Q := by
  intro l p e s m args below meth c D dT q A H locs lsA hC hl hP hD hS
  exact lv_icmp_lt hC.1 hC.2.1 hd ht (fun h9 => kt h9 l p e s m args below meth c D dT q A H locs lsA hC hl hP hD hS) (fun h9 => kf h9 l p e s m args below meth c D dT q A H locs lsA hC hl hP hD hS)
theorem mx_if_ge {x : Int32} {off : Int} (tgt : Nat) (hd : decode J.2.1 k = .ok (.ifCond .ge off, 3)) (ht : (k : Int) + off = (tgt : Int))
    (kt : 0 ≤ x → mx_W K T cl J R tgt ls rest hp Q) (kf : ¬ 0 ≤ x → mx_W K T cl J R (k + 3) ls rest hp Q) : mx_W K T cl J R k ls (.int x :: rest) hp Q := by
  intro l p e s m args below meth c D dT q A H locs lsA hC hl hP hD hS
  exact lv_if_ge hC.1 hC.2.1 hd ht (fun h9 => kt h9 l p e s m args below meth c D dT q A H locs lsA hC hl hP hD hS) (fun h9 => kf h9 l p e s m args below meth c D dT q A H locs lsA hC hl hP hD hS)
theorem mx_icmp_ge {x y : Int32} {off : Int} (tgt : Nat) (hd : decode J.2.1 k = .ok (.if_icmp .ge off, 3)) (ht : (k : Int) + off = (tgt : Int))
    (kt : y ≤ x → mx_W K T cl J R tgt ls rest hp Q) (kf : ¬ y ≤ x → mx_W K T cl J R (k + 3) ls rest hp Q) : mx_W K T cl J R k ls (.int y :: .int x :: rest) hp Q := by
  intro l p e s m args below meth c D dT q A H locs lsA hC hl hP hD hS
  exact lv_icmp_ge hC.1 hC.2.1 hd ht (fun h9 => kt h9 l p e s m args below meth c D dT q A H locs lsA hC hl hP hD hS) (fun h9 => kf h9 l p e s m args below meth c D dT q A H locs lsA hC hl hP hD hS)
theorem mx_if_gt {x : Int32} {off : Int} (tgt : Nat) (hd : decode J.2.1 k = .ok (.ifCond .gt off, 3)) (ht : (k : Int) + off = (tgt : Int))
    (kt : 0 < x → mx_W K T cl J R tgt ls rest hp Q) (kf : ¬ 0 < x → mx_W K T cl J R (k + 3) ls rest hp Q) : mx_W K T cl J R k ls (.int x :: rest) hp Q := by
  intro l p e s m args below meth c D dT q A H locs lsA hC hl hP hD hS
  exact lv_if_gt hC.1 hC.2.1 hd ht (fun h9 => kt h9 l p e s m args below meth c D dT q A H locs lsA hC hl hP hD hS) (fun h9 => kf h9 l p e s m args below meth c D dT q A H locs lsA hC hl hP hD hS)
theorem mx_icmp_gt {x y : Int32} {off : Int} (tgt : Nat) (hd : decode J.2.1 k = .ok (.if_icmp .gt off, 3)) (ht : (k : Int) + off = (tgt : Int))
    (kt : y < x → mx_W K T cl J R tgt ls rest hp Q) (kf : ¬ y < x → mx_W K T cl J R (k + 3) ls rest hp Q) : mx_W K T cl J R k ls (.int y :: .int x :: rest) hp Q := by
  intro l p e s m args below meth c D dT q A H locs lsA hC hl hP hD hS
  exact lv_icmp_gt hC.1 hC.2.1 hd ht (fun h9 => kt h9 l p e s m args below meth c D dT q A H locs lsA hC hl hP hD hS) (fun h9 => kf h9 l p e s m args below meth c D dT q A H locs lsA hC hl hP hD hS)
theorem mx_if_le {x : Int32} {off : Int} (tgt : Nat) (hd : decode J.2.1 k = .ok (.ifCond .le off, 3)) (ht : (k : Int) + off = (tgt : Int))
    (kt : x ≤ 0 → mx_W K T cl J R tgt ls rest hp Q) (kf : ¬ x ≤ 0 → mx_W K T cl J R (k + 3) ls rest hp Q) : mx_W K T cl J R k ls (.int x :: rest) hp Q := by
  intro l p e s m args below meth c D dT q A H locs lsA hC hl hP hD hS
  exact lv_if_le hC.1 hC.2.1 hd ht (fun h9 => kt h9 l p e s m args below meth c D dT q A H locs lsA hC hl hP hD hS) (fun h9 => kf h9 l p e s m args below meth c D dT q A H locs lsA hC hl hP hD hS)
theorem mx_icmp_le {x y : Int32} {off : Int} (tgt : Nat) (hd : decode J.2.1 k = .ok (.if_icmp .le off, 3)) (ht : (k : Int) + off = (tgt : Int))
    (kt : x ≤ y → mx_W K T cl J R tgt ls rest hp Q) (kf : ¬ x ≤ y → mx_W K T cl J R (k + 3) ls rest hp Q) : mx_W K T cl J R k ls (.int y :: .int x :: rest) hp Q := by
  intro l p e s m args below meth c D dT q A H locs lsA hC hl hP hD hS
  exact lv_icmp_le hC.1 hC.2.1 hd ht (fun h9 => kt h9 l p e s m args below meth c D dT q A H locs lsA hC hl hP hD hS) (fun h9 => kf h9 l p e s m args below meth c D dT q A H locs lsA hC hl hP hD hS)
theorem mx_goto {off : Int} (tgt : Nat) (hd : decode J.2.1 k = .ok (.goto off, 3)) (ht : (k : Int) + off = (tgt : Int))
    (kk : mx_W K T cl J R tgt ls rest hp Q) : mx_W K T cl J R k ls rest hp Q := by
  intro l p e s m args below meth c D dT q A H locs lsA hC hl hP hD hS
  exact lv_goto hC.1 hC.2.1 hd ht (kk l p e s m args below meth c D dT q A H locs lsA hC hl hP hD hS)
theorem mx_tableIn {dflt lo hi : Int} {offs : Array Int} {len : Nat} {x : Int32} {off : Int} (tgt : Nat) (hd : decode J.2.1 k = .ok (.tableswitch dflt lo hi offs, len)) (h1 : ¬ x.toInt < lo) (h2 : ¬ hi < x.toInt) (ho : offs[(x.toInt - lo).toNat]? = some off) (ht : (k : Int) + off = (tgt : Int))
    (kk : mx_W K T cl J R tgt ls rest hp Q) : mx_W K T cl J R k ls (.int x :: rest) hp Q := by
  intro l p e s m args below meth c D dT q A H locs lsA hC hl hP hD hS
  exact lv_tableIn hC.1 hC.2.1 hd h1 h2 ho ht (kk l p e s m args below meth c D dT q A H locs lsA hC hl hP hD hS)
theorem mx_tableOut {dflt lo hi : Int} {offs : Array Int} {len : Nat} {x : Int32} (tgt : Nat) (hd : decode J.2.1 k = .ok (.tableswitch dflt lo hi offs, len)) (h : x.toInt < lo ∨ hi < x.toInt) (ht : (k : Int) + dflt = (tgt : Int))
    (kk : mx_W K T cl J R tgt ls rest hp Q) : mx_W K T cl J R k ls (.int x :: rest) hp Q := by
  intro l p e s m args below meth c D dT q A H locs lsA hC hl hP hD hS
  exact lv_tableOut hC.1 hC.2.1 hd h ht (kk l p e s m args below meth c D dT q A H locs lsA hC hl hP hD hS)
theorem mx_ldc {idx : Nat} {x : Int32} (hd : decode J.2.1 k = .ok (.ldc idx, 2)) (hc : Jvm.Cond.constant J.1.cls idx x ∈ T)
    (kk : mx_W K T cl J R (k + 2) ls (.int x :: rest) hp Q) : mx_W K T cl J R k ls rest hp Q := by
  intro l p e s m args below meth c D dT q A H locs lsA hC hl hP hD hS
  exact lv_ldc hC.1 hC.2.1 hC.2.2.2.2.1 (hC.2.2.2.2.2.1 _ hc) hd (kk l p e s m args below meth c D dT q A H locs lsA hC hl hP hD hS)
theorem mx_ldc2 {idx : Nat} {x : Int64} (hd : decode J.2.1 k = .ok (.ldc2_w idx, 3)) (hc : Jvm.Cond.constantLong J.1.cls idx x ∈ T)
    (kk : mx_W K T cl J R (k + 3) ls (.long x :: rest) hp Q) : mx_W K T cl J R k ls rest hp Q := by
  intro l p e s m args below meth c D dT q A H locs lsA hC hl hP hD hS
  exact lv_ldc2 hC.1 hC.2.1 hC.2.2.2.2.1 (hC.2.2.2.2.2.1 _ hc) hd (kk l p e s m args below meth c D dT q A H locs lsA hC hl hP hD hS)
theorem mx_iald {b n : Nat} {f : Nat → Int32} {i : Int32} (hd : decode J.2.1 k = .ok (.iaload, 1)) (hb : hp[b]? = some (.inl (0, n, .inl f))) (hin : vp_in i n)
    (kk : mx_W K T cl J R (k + 1) ls (.int (f i.toNatClampNeg) :: rest) hp Q) : mx_W K T cl J R k ls (.int i :: .ref b :: rest) hp Q := by
  intro l p e s m args below meth c D dT q A H locs lsA hC hl hP hD hS
  exact va_iald hC.1 hC.2.1 hC.2.2.2.2.2.2.1 hP b 0 (mx_w_get hb) rfl hin hd (kk l p e s m args below meth c D dT q A H locs lsA hC hl hP hD hS)
theorem mx_zald {b n : Nat} {f : Nat → Int32} {i : Int32} (hd : decode J.2.1 k = .ok (.baload, 1)) (hb : hp[b]? = some (.inl (2, n, .inl f))) (hin : vp_in i n)
    (kk : mx_W K T cl J R (k + 1) ls (.int (f i.toNatClampNeg) :: rest) hp Q) : mx_W K T cl J R k ls (.int i :: .ref b :: rest) hp Q := by
  intro l p e s m args below meth c D dT q A H locs lsA hC hl hP hD hS
  exact va_zald hC.1 hC.2.1 hC.2.2.2.2.2.2.1 hP b 2 (mx_w_get hb) rfl hin hd (kk l p e s m args below meth c D dT q A H locs lsA hC hl hP hD hS)
theorem mx_lald {b n : Nat} {f : Nat → Int64} {i : Int32} (hd : decode J.2.1 k = .ok (.laload, 1)) (hb : hp[b]? = some (.inl (1, n, .inr (.inl f)))) (hin : vp_in i n)
    (kk : mx_W K T cl J R (k + 1) ls (.long (f i.toNatClampNeg) :: rest) hp Q) : mx_W K T cl J R k ls (.int i :: .ref b :: rest) hp Q := by
  intro l p e s m args below meth c D dT q A H locs lsA hC hl hP hD hS
  exact va_lald hC.1 hC.2.1 hC.2.2.2.2.2.2.1 hP b 1 (mx_w_get hb) rfl hin hd (kk l p e s m args below meth c D dT q A H locs lsA hC hl hP hD hS)
theorem mx_iast {b n : Nat} {f : Nat → Int32} {i : Int32} {x : Int32} (hd : decode J.2.1 k = .ok (.iastore, 1)) (hb : hp[b]? = some (.inl (0, n, .inl f))) (hin : vp_in i n)
    (kk : mx_W K T cl J R (k + 1) ls rest (hp.set b (.inl (0, n, .inl (upd f i.toNatClampNeg x)))) Q) : mx_W K T cl J R k ls (.int x :: .int i :: .ref b :: rest) hp Q := by
  intro l p e s m args below meth c D dT q A H locs lsA hC hl hP hD hS
  refine va_iast hC.1 hC.2.1 hC.2.2.2.2.2.2.1 hP hD hS b 0 (mx_w_get hb) rfl hin hd (fun H1 locs1 hP1 hD1 hS1 => ?_)
  have e1 := mx_w_set q dT hp b (.inl (0, n, .inl (upd f i.toNatClampNeg x)))
  exact kk l p e s m args below meth c D dT q A H1 locs1 lsA hC hl (e1 ▸ hP1) (e1 ▸ hD1) hS1
theorem mx_zast {b n : Nat} {f : Nat → Int32} {i : Int32} {x : Int32} (hd : decode J.2.1 k = .ok (.bastore, 1)) (hb : hp[b]? = some (.inl (2, n, .inl f))) (hin : vp_in i n)
    (kk : mx_W K T cl J R (k + 1) ls rest (hp.set b (.inl (2, n, .inl (upd f i.toNatClampNeg (vp_nar .boolean x))))) Q) : mx_W K T cl J R k ls (.int x :: .int i :: .ref b :: rest) hp Q := by
  intro l p e s m args below meth c D dT q A H locs lsA hC hl hP hD hS
  refine va_zast hC.1 hC.2.1 hC.2.2.2.2.2.2.1 hP hD hS b 2 (mx_w_get hb) rfl hin hd (fun H1 locs1 hP1 hD1 hS1 => ?_)
  have e1 := mx_w_set q dT hp b (.inl (2, n, .inl (upd f i.toNatClampNeg (vp_nar .boolean x))))
  exact kk l p e s m args below meth c D dT q A H1 locs1 lsA hC hl (e1 ▸ hP1) (e1 ▸ hD1) hS1
theorem mx_last {b n : Nat} {f : Nat → Int64} {i : Int32} {x : Int64} (hd : decode J.2.1 k = .ok (.lastore, 1)) (hb : hp[b]? = some (.inl (1, n, .inr (.inl f)))) (hin : vp_in i n)
    (kk : mx_W K T cl J R (k + 1) ls rest (hp.set b (.inl (1, n, .inr (.inl (vp_updL f i.toNatClampNeg x))))) Q) : mx_W K T cl J R k ls (.long x :: .int i :: .ref b :: rest) hp Q := by
  intro l p e s m args below meth c D dT q A H locs lsA hC hl hP hD hS
  refine va_last hC.1 hC.2.1 hC.2.2.2.2.2.2.1 hP hD hS b 1 (mx_w_get hb) rfl hin hd (fun H1 locs1 hP1 hD1 hS1 => ?_)
  have e1 := mx_w_set q dT hp b (.inl (1, n, .inr (.inl (vp_updL f i.toNatClampNeg x))))
  exact kk l p e s m args below meth c D dT q A H1 locs1 lsA hC hl (e1 ▸ hP1) (e1 ▸ hD1) hS1
theorem mx_aald {b n y : Nat} {f : Nat → Option Nat} {i : Int32} (hd : decode J.2.1 k = .ok (.aaload, 1)) (hb : hp[b]? = some (.inl (3, n, .inr (.inr (.inr (.inr f)))))) (hin : vp_in i n) (hy : f i.toNatClampNeg = some y)
    (kk : mx_W K T cl J R (k + 1) ls (.ref y :: rest) hp Q) : mx_W K T cl J R k ls (.int i :: .ref b :: rest) hp Q := by
  intro l p e s m args below meth c D dT q A H locs lsA hC hl hP hD hS
  have hlt : i.toNatClampNeg < n := Nat.not_le.mp fun h => hin (Or.inr h)
  have hcell := hP b _ (mx_w_get hb)
  exact W.aald (v := .ref (q y)) (ty := .array .int) hC.1 hC.2.1 hcell ((hC.2.2.2.2.2.2.1.2 3 _ rfl).1 n (fun j => va_rf ((f j).map q))) rfl (fun h => by cases h) (by show ¬ (i < 0 ∨ (arrV (dT 3) n (fun j => va_rf ((f j).map q))).slots.size ≤ _); rw [arrV_size]; exact hin) (by show (arrV (dT 3) n (fun j => va_rf ((f j).map q))).slots[i.toNatClampNeg]? = _; rw [arrV_read _ _ hlt, hy]; rfl) rfl rfl hd (kk l p e s m args below meth c D dT q A H locs lsA hC hl hP hD hS)
theorem mx_alen {b t : Nat} {x : vp_A} {ty : FieldType} {v : Int32} (hd : decode J.2.1 k = .ok (.arraylength, 1)) (hb : hp[b]? = some (.inl (t, x))) (ht : ∀ dT, (mx_tys dT)[t]? = some (dT t, ty)) (hv : Int32.ofNat x.1 = v)
    (kk : mx_W K T cl J R (k + 1) ls (.int v :: rest) hp Q) : mx_W K T cl J R k ls (.ref b :: rest) hp Q := by
  intro l p e s m args below meth c D dT q A H locs lsA hC hl hP hD hS
  have hx : (mx_a q x).1 = x.1 := by obtain ⟨n, a | a | a | a | a⟩ := x <;> rfl
  exact va_alen hC.1 hC.2.1 hC.2.2.2.2.2.2.1 hP b t (mx_w_get hb) (ht dT) (by rw [hx]; exact hv) hd (kk l p e s m args below meth c D dT q A H locs lsA hC hl hP hD hS)
def mx_fl (T : List Cond) (own : String) (idx : Nat) (F : u_T) (fi : Nat) : Prop := Cond.fieldLink own idx (F fi).1 (F fi).2.1 (F fi).2.2.1 ∈ T ∨ ∃ host, Cond.fieldLinkNest own idx (F fi).1 (F fi).2.1 (F fi).2.2.1 host ∈ T
def mx_fg (T : List Cond) (cl : List vw_C) (own : String) (idx ci fi : Nat) : Prop := ∃ (C : String) (F : u_T) (N : Nat), cl[ci]? = some (C, F, N) ∧ fi < N ∧ (∀ w ∈ u_ws C F N, w ∈ T) ∧ mx_fl T own idx F fi
theorem mx_get {idx b : Nat} {fs : List Value} {v : Value} (ci fi : Nat) (hd : decode J.2.1 k = .ok (.getfield idx, 3)) (hf : mx_fg T cl J.1.cls idx ci fi) (hb : hp[b]? = some (.inr (ci, fs))) (hv : fs[fi]? = some v)
    (kk : mx_W K T cl J R (k + 3) ls (v :: rest) hp Q) : mx_W K T cl J R k ls (.ref b :: rest) hp Q := by
  intro l p e s m args below meth c D dT q A H locs lsA hC hl hP hD hS
  obtain ⟨C, F, N, h1, h2, h3, h4⟩ := hf
  have hv' : (fs.map (mx_v q))[fi]? = some (mx_v q v) := by rw [List.getElem?_map, hv]; rfl
  rcases h4 with h4 | ⟨host, h4⟩
  · exact va_get hC.1 hC.2.1 hC.2.2.2.2.2.1 h3 hC.2.2.2.2.1 hC.2.2.2.2.2.2.1 hP b (mx_w_get hb) h1 fi h2 (hC.2.2.2.2.2.1 _ h4) (fun _ h => h) hv' hd (kk l p e s m args below meth c D dT q A H locs lsA hC hl hP hD hS)
  · exact va_getN hC.1 hC.2.1 hC.2.2.2.2.2.1 h3 hC.2.2.2.2.1 hC.2.2.2.2.2.2.1 hP b (mx_w_get hb) h1 fi h2 (hC.2.2.2.2.2.1 _ h4) (fun _ h => h) hv' hd (kk l p e s m args below meth c D dT q A H locs lsA hC hl hP hD hS)
def mx_fp (T : List Cond) (cl : List vw_C) (own : String) (idx ci fi : Nat) (ty : FieldType) : Prop := ∃ (C : String) (F : u_T) (N : Nat) (ty0 : Nat → FieldType), cl[ci]? = some (C, F, N) ∧ fi < N ∧ (∀ w ∈ u_ws C F N, w ∈ T) ∧ mx_fl T own idx F fi ∧
  (∀ k, k < N → parseFieldDescriptor (F k).2.2.1 = some (ty0 k)) ∧ (∀ a, a < N → ∀ b, b < N → a ≠ b → (F a).2.1 ≠ (F b).2.1) ∧ (F fi).2.2.2 = false ∧ parseFieldDescriptor (F fi).2.2.1 = some ty
theorem mx_put {idx b : Nat} {fs : List Value} {x : Int32} (ci fi : Nat) (ty : FieldType) (hd : decode J.2.1 k = .ok (.putfield idx, 3)) (hf : mx_fp T cl J.1.cls idx ci fi ty) (hb : hp[b]? = some (.inr (ci, fs))) (hl : fi < fs.length) (hn : narrow ty (.int x) = .int x) (hfit : fits ty (.int x) = true)
    (kk : mx_W K T cl J R (k + 3) ls rest (hp.set b (.inr (ci, fs.set fi (.int x)))) Q) : mx_W K T cl J R k ls (.int x :: .ref b :: rest) hp Q := by
  intro l p e s m args below meth c D dT q A H locs lsA hC hls hP hD hS
  obtain ⟨C, F, N, ty0, h1, h2, h3, h4, h5, h6, h7, h8⟩ := hf
  have e1 := mx_w_set q dT hp b (.inr (ci, fs.set fi (.int x)))
  have e2 : mx_e q dT (.inr (ci, fs.set fi (.int x))) = .inr (ci, (fs.map (mx_v q)).set fi (.int x)) := by
    show Sum.inr (ci, (fs.set fi (.int x)).map (mx_v q)) = _
    rw [List.map_set]
    rfl
  rw [e2] at e1
  rcases h4 with h4 | ⟨host, h4⟩
  · exact va_put hC.1 hC.2.1 hC.2.2.2.2.2.1 h3 ty0 h5 h6 hC.2.2.2.2.1 hC.2.2.2.2.2.2.1 hP hD hS b (mx_w_get hb) h1 fi h2 (hC.2.2.2.2.2.1 _ h4) (fun _ h => h) h7 h8 hn hfit (by simpa using hl) hd (fun H1 locs1 hP1 hD1 hS1 => kk l p e s m args below meth c D dT q A H1 locs1 lsA hC hls (e1 ▸ hP1) (e1 ▸ hD1) hS1)
  · exact va_putN hC.1 hC.2.1 hC.2.2.2.2.2.1 h3 ty0 h5 h6 hC.2.2.2.2.1 hC.2.2.2.2.2.2.1 hP hD hS b (mx_w_get hb) h1 fi h2 (hC.2.2.2.2.2.1 _ h4) (fun _ h => h) h7 h8 hn hfit (by simpa using hl) hd (fun H1 locs1 hP1 hD1 hS1 => kk l p e s m args below meth c D dT q A H1 locs1 lsA hC hls (e1 ▸ hP1) (e1 ▸ hD1) hS1)
theorem mx_max {idx : Nat} {x y : Int32} (hd : decode J.2.1 k = .ok (.invokestatic idx, 3)) (h1 : Cond.methodLink J.1.cls idx Lib.Math.max.name ∈ T) (h2 : Cond.static Lib.Math.max.name ∈ T) (h3 : Cond.initialized "java/lang/Math" ∈ T) (h4 : Cond.code Lib.Math.max.name Lib.Math.max.code 2 (some .int) ∈ T) (hfr : 1 ≤ R.frames) (hlo : (rest.map fun v => v.category).sum + 13 ≤ R.locals)
    (kk : mx_W K T cl J R (k + 3) ls (.int (if x < y then y else x) :: rest) hp Q) : mx_W K T cl J R k ls (.int y :: .int x :: rest) hp Q := by
  intro l p e s m args below meth c D dT q A H locs lsA hC hl hP hD hS
  have hw := hC.2.2.2.2.2.1
  exact va_mmax hC.1 hC.2.1 (hC.2.2.2.1.trans hl.1.symm) hC.2.2.2.2.1 (hw _ h1) (hw _ h2) (hw _ h3) (hw _ h4) hfr (by rw [List.map_map]; simpa [Function.comp_def, mx_v_cat] using hlo) (Nat.zero_le _) (Nat.zero_le _) hd (kk l p e s m args below meth c D dT q A H locs lsA hC hl hP hD hS)
theorem mx_min {idx : Nat} {x y : Int32} (hd : decode J.2.1 k = .ok (.invokestatic idx, 3)) (h1 : Cond.methodLink J.1.cls idx Lib.Math.min.name ∈ T) (h2 : Cond.static Lib.Math.min.name ∈ T) (h3 : Cond.initialized "java/lang/Math" ∈ T) (h4 : Cond.code Lib.Math.min.name Lib.Math.min.code 2 (some .int) ∈ T) (hfr : 1 ≤ R.frames) (hlo : (rest.map fun v => v.category).sum + 13 ≤ R.locals)
    (kk : mx_W K T cl J R (k + 3) ls (.int (if y < x then y else x) :: rest) hp Q) : mx_W K T cl J R k ls (.int y :: .int x :: rest) hp Q := by
  intro l p e s m args below meth c D dT q A H locs lsA hC hl hP hD hS
  have hw := hC.2.2.2.2.2.1
  exact va_mmin hC.1 hC.2.1 (hC.2.2.2.1.trans hl.1.symm) hC.2.2.2.2.1 (hw _ h1) (hw _ h2) (hw _ h3) (hw _ h4) hfr (by rw [List.map_map]; simpa [Function.comp_def, mx_v_cat] using hlo) (Nat.zero_le _) (Nat.zero_le _) hd (kk l p e s m args below meth c D dT q A H locs lsA hC hl hP hD hS)
theorem mx_zero (v : Int32) : narrow .int (.int v) = .int v := rfl
theorem mx_iret {v : Int32} {ty : FieldType} (hd : decode J.2.1 k = .ok (.ireturn, 1)) (hr : J.2.2.2 = some ty) (hn : narrow ty (.int v) = .int v) (hQ : Q (.inl (some (.int v))) hp) : mx_W K T cl J R k ls [.int v] hp Q := by
  intro l p e s m args below meth c D dT q A H locs lsA hC hl hP hD hS
  have hlocks : meth.locks = false := hC.2.2.2.2.2.2.2.1
  refine mx_Wmono ?_ (W.zret (Qc := fun _ _ o t => o = .returned (some (.int v)) ∧ t.heap = H) (free := A) hC.1 hC.2.1 (hC.2.2.1.trans hr) hn (fun t ht _ => ⟨rfl, ht⟩) hS.2.2 hd hlocks)
  intro t ht
  obtain ⟨o, a1, a2, ⟨rfl, hh⟩, L, hF, hL⟩ := ht
  exact ⟨_, .inl (some (.int v)), hp, a1, a2, hQ, by rw [hh]; exact hP, hD, hS.F hh, rfl, L, hF, hL⟩
theorem mx_vret (hd : decode J.2.1 k = .ok (.return_, 1)) (hr : J.2.2.2 = none) (hQ : Q (.inl none) hp) : mx_W K T cl J R k ls [] hp Q := by
  intro l p e s m args below meth c D dT q A H locs lsA hC hl hP hD hS
  have hlocks : meth.locks = false := hC.2.2.2.2.2.2.2.1
  refine mx_Wmono ?_ (W.vret (Qc := fun _ _ o t => o = .returned none ∧ t.heap = H) (free := A) hC.1 hC.2.1 (hC.2.2.1.trans hr) (fun t ht _ => ⟨rfl, ht⟩) hS.2.2 hd hlocks)
  intro t ht
  obtain ⟨o, a1, a2, ⟨rfl, hh⟩, L, hF, hL⟩ := ht
  exact ⟨_, .inl none, hp, a1, a2, hQ, by rw [hh]; exact hP, hD, hS.F hh, rfl, L, hF, hL⟩
end MX
end
section
/-! The engine, second half: a walk is a contract; calls by contract; System.arraycopy. -/
def mx_pad (vs : List Value) (n : Nat) : List Value := vs ++ List.replicate (n - vs.length) (.retAddr 0)
theorem mx_cat_of {vs : List Value} (h : mx_cat1 vs = true) : ∀ v ∈ vs, v.category = 1 := fun v hv => by
  have := List.all_eq_true.mp h v hv
  simpa using this
theorem mx_cat_map {q : Nat → Nat} {vs : List Value} (h : mx_cat1 vs = true) : ∀ v ∈ vs.map (mx_v q), v.category = 1 := fun v hv => by
  obtain ⟨u, hu, rfl⟩ := List.mem_map.mp hv
  rw [mx_v_cat]
  exact mx_cat_of h u hu
theorem mx_sl_len : ∀ (ws : List Value), (∀ v ∈ ws, v.category = 1) → (lg_sl ws).length = ws.length := by
  intro ws
  induction ws with
  | nil => intro _; rfl
  | cons v t ih =>
    intro h
    have h1 := h v List.mem_cons_self
    have h2 := ih (fun u hu => h u (List.mem_cons_of_mem _ hu))
    show ((if v.category = 2 then [Slot.val v, Slot.second] else [Slot.val v]) ++ lg_sl t).length = t.length + 1
    rw [if_neg (by omega), List.length_append, h2]
    simp
    omega
theorem mx_args_mem : ∀ (ws : List Value) (i : Nat), (∀ v ∈ ws, v.category = 1) → ∀ (j : Nat) (v : Value), ws[j]? = some v → (i + j, v) ∈ lv_args i ws := by
  intro ws
  induction ws with
  | nil => intro i _ j v h; simp at h
  | cons u t ih =>
    intro i h j v hj
    have h1 := h u List.mem_cons_self
    cases j with
    | zero =>
      simp at hj
      subst hj
      show (i + 0, u) ∈ (i, u) :: lv_args _ t
      exact List.mem_cons_self
    | succ j =>
      show (i + (j + 1), v) ∈ (i, u) :: lv_args (if u.category = 2 then i + 2 else i + 1) t
      rw [if_neg (by omega)]
      have := ih (i + 1) (fun w hw => h w (List.mem_cons_of_mem _ hw)) j v (by simpa using hj)
      rw [show i + (j + 1) = i + 1 + j by omega]
      exact List.mem_cons_of_mem _ this
theorem mx_entry {q : Nat → Nat} {vs : List Value} {n : Nat} (hc : mx_cat1 vs = true) (hlen : vs.length ≤ n) : lv_has ((lg_sl (vs.map (mx_v q)) ++ List.replicate (n - (lg_sl (vs.map (mx_v q))).length) Slot.unset).toArray) n (mx_l q (mx_pad vs n)) := by
  have hm := mx_cat_map (q := q) hc
  refine mx_has_mono (lv_entry (vs.map (mx_v q)) (n := n) (by rw [mx_sl_len _ hm]; simpa using hlen)) (fun x hx => ?_)
  obtain ⟨v, h1, h2, h3⟩ := mx_l_mem.mp hx
  obtain ⟨i, w⟩ := x
  dsimp only at h1 h3
  have hi : vs[i]? = some v := by
    unfold mx_pad at h1
    by_cases hlt : i < vs.length
    · rwa [List.getElem?_append_left hlt] at h1
    · rw [List.getElem?_append_right (by omega), List.getElem?_replicate] at h1
      split at h1
      · exact absurd (Option.some.inj h1).symm (h2 0)
      · cases h1
  have := mx_args_mem (vs.map (mx_v q)) 0 hm i (mx_v q v) (by rw [List.getElem?_map, hi]; rfl)
  rw [h3]
  simpa using this
def mx_Pc (l : Launch) (D : va_G) (cl : List vw_C) (dT : Nat → ClassId) (q : Nat → Nat) (sz : Nat) (vs : List Value) (hp : List va_E) : Array Value → State → Prop :=
  va_Pc (vs.map (mx_v q)) (fun U => U.heap.size = sz ∧ va_P D cl (mx_w q dT hp) U.heap ∧ va_K D cl (mx_tys dT) U ∧ va_D (fun _ => True) (mx_w q dT hp) ∧ mx_Z0 l U)
def mx_Qc (D : va_G) (cl : List vw_C) (dT : Nat → ClassId) (q : Nat → Nat) (A : Nat → Prop) (Q : mx_O → List va_E → Prop) : Array Value → State → Outcome → State → Prop := fun _ st o t =>
  ∃ (v : Option Value) (hp' : List va_E), o = .returned (v.map (mx_v q)) ∧ Q (.inl v) hp' ∧ va_P D cl (mx_w q dT hp') t.heap ∧ va_D A (mx_w q dT hp') ∧ va_F A st t
theorem mx_blind (l : Launch) (D : va_G) (cl : List vw_C) (dT : Nat → ClassId) (q : Nat → Nat) (sz : Nat) (vs : List Value) (hp : List va_E) : FrameBlind (mx_Pc l D cl dT q sz vs hp) := by
  intro a U g mk h
  obtain ⟨q0, q1, qP, qK, qD, qZ⟩ := h
  exact ⟨q0, q1, qP, va_K.moved (u := U) (U := U.calling g mk a) (Vm.Alike.refl U.vm) qK, qD, mx_Z0_moved (s := U) (U := U.calling g mk a) (Vm.Alike.refl U.vm) (fun _ _ h _ => h) qZ⟩
theorem mx_vmnone {cA : ClassId} {a : vp_A} : (vp_cell cA a).vm = .none := by
  obtain ⟨n, f | f | f | f | f⟩ := a <;> rfl
theorem mx_nostat {D : va_G} {cl : List vw_C} {ws : va_W} {H : Heap} (hP : va_P D cl ws H) : ∀ r : Nat, va_A ws H.size r → ∀ cell : Cell, H[r]? = some cell → cell.vm.isStatics = false := by
  intro r h cell hc
  rcases h with ⟨j, x, h⟩ | h
  · have h1 := hP j _ h
    cases x with
    | inl a =>
      have h2 : H[r]? = some (vp_cell a.1 a.2) := h1
      rw [hc] at h2
      rw [Option.some.inj h2, mx_vmnone]
      rfl
    | inr o =>
      obtain ⟨_, _, cell', e1, _, e3, _⟩ := h1
      have e1 : H[r]? = some cell' := e1
      rw [hc] at e1
      rw [Option.some.inj e1, e3]
      rfl
  · have := (Array.getElem?_eq_some_iff.mp hc).1
    omega
theorem mx_met {K : Nat → Addr → State → State → Prop} {T : List Cond} {cl : List vw_C} {J : mx_J} {R : Room} {hp : List va_E} {Q : mx_O → List va_E → Prop} {vs : List Value} (l : Launch) (D : va_G) (dT : Nat → ClassId) (q : Nat → Nat) (sz : Nat)
    (hy : plainName J.1.cls = true) (hc : mx_cat1 vs = true) (hlen : vs.length ≤ J.2.2.1) (hW : mx_W K T cl J R 0 (mx_pad vs J.2.2.1) [] hp Q) (hQ : ∀ X hp', ¬ Q (.inr X) hp') :
    Met l J.1 (Cond.code J.1 J.2.1 J.2.2.1 J.2.2.2 :: T) R (mx_Pc l D cl dT q sz vs hp) (mx_Qc D cl dT q (va_A (mx_w q dT hp) sz) Q) 0 0 (va_A (mx_w q dT hp) sz) := by
  refine Met.ofW (cc := J.2.1) (maxL := J.2.2.1) (ret := J.2.2.2) hy rfl ?_
  intro p e s m args below meth c s₁ B hml hv
  obtain ⟨rfl, hsz, hP, hK, hD0, hZ0⟩ := hv
  subst hsz
  have hts := atoms_spec (ws := Cond.code J.1 J.2.1 J.2.2.1 J.2.2.2 :: T) B.pre
  rw [lg_entry_eq]
  refine mx_Wmono ?_ (hW l p e s m _ below meth c D dT q _ s.heap [] _ ⟨B.exec, B.bytes, B.returns, hml, findClass_of_methodNamed B.named, fun w hw => hts w (List.mem_cons_of_mem _ hw), hK, B.notSynchronized, fun r h => Or.inr h, mx_nostat hP, hZ0, B.noHandlers (hts _ List.mem_cons_self)⟩ (mx_entry hc hlen) hP hD0.self va_S.rf)
  intro t ht
  obtain ⟨o, r, hp', h1, h2, h3, h4, h5, h6, h7⟩ := ht
  cases r with
  | inl v =>
    obtain ⟨rfl, L, hF, hL⟩ := h7
    exact ⟨_, h1, h2, ⟨v, hp', rfl, h3, h4, h5, h6⟩, L, hF, hL⟩
  | inr X => exact absurd h3 (hQ X hp')
def mx_gw (w : Cond) : Bool := (w.onTables && w.keeps) || match w with
  | .methodLinkNest .. => true
  | .fieldLinkNest .. => true
  | .arrayClass _ => true
  | .castable .. => true
  | .declares _ => true
  | _ => false
theorem mx_warm {w : Cond} {args a' : Array Value} {s U : State} (h : mx_gw w = true) (hW : s.WarmedH U.vm) (hb : w.before args s = true) : w.before a' U = true := by
  unfold mx_gw at h
  by_cases h1 : (w.onTables && w.keeps) = true
  · exact word_at hW (Or.inl h1) hb
  · rw [Bool.eq_false_iff.mpr h1, Bool.false_or] at h
    split at h
    · exact va_Nw.use rfl (va_Nw.warmM hW (va_Nw.of rfl hb))
    · exact va_Nw.use rfl (va_Nw.warmF hW (va_Nw.of rfl hb))
    · exact word_at hW (Or.inr ⟨_, rfl⟩) hb
    · exact va_tabs rfl (rfl : (s.setVm U.vm).vm = U.vm) (by rw [Cond.castable_setVm hW.alike]; exact hb)
    · exact va_Nw.use rfl (va_Nw.warmD hW (va_Nw.of rfl hb))
    · cases h
def mx_G (T : List Cond) : Prop := ∀ w ∈ T, mx_gw w = true
def mx_ok (T : List Cond) (J : mx_J) (n : Nat) : Prop := Cond.code J.1 J.2.1 J.2.2.1 J.2.2.2 ∈ T ∧ Cond.initialized J.1.cls ∈ T ∧ plainName J.1.cls = true ∧ J.1.cls ≠ "java/lang/invoke/MethodHandle" ∧ J.1.cls ≠ "java/lang/invoke/VarHandle" ∧ (parseMethodDescriptor J.1.desc).map (fun d => d.parameters.length) = some n
def mx_lk (T : List Cond) (own : String) (idx : Nat) (y : MethodName) : Prop := Cond.methodLink own idx y ∈ T ∨ ∃ host, Cond.methodLinkNest own idx y host ∈ T
def mx_rm (R' R : Room) (nL : Nat) : Prop := R'.cells = 0 ∧ R'.slots = 0 ∧ R'.frames + 1 ≤ R.frames ∧ 8 + (nL + 11) + R'.locals ≤ R.locals
theorem mx_hws {T : List Cond} {J : mx_J} {n : Nat} {args : Array Value} {s : State} (hG : mx_G T) (hok : mx_ok T J n) (hw : ∀ w ∈ T, w.before args s = true) : ∀ w ∈ Cond.code J.1 J.2.1 J.2.2.1 J.2.2.2 :: T, ∀ (a' : Array Value) (U : State), s.WarmedH U.vm → w.before a' U = true := by
  intro w h a' U hW
  have h1 : w ∈ T := by
    rcases List.mem_cons.mp h with rfl | h
    · exact hok.1
    · exact h
  exact mx_warm (hG w h1) hW (hw w h1)
theorem mx_par {y : MethodName} {n : Nat} (h : (parseMethodDescriptor y.desc).map (fun d => d.parameters.length) = some n) : ∀ sig, parseMethodDescriptor y.desc = some sig → n = sig.parameters.length := fun sig h2 => by
  rw [h2] at h
  exact (Option.some.inj h).symm
theorem mx_callB {T : List Cond} {J' : mx_J} {R' R : Room} {n idx : Nat} {own : String} {args : Array Value} {s : State} (hG : mx_G T) (hok : mx_ok T J' n) (hw : ∀ w ∈ T, w.before args s = true) (hRm : mx_rm R' R J'.2.2.1) (hlk : Cond.methodLink own idx J'.1 ∈ T) : CallB R s args own idx J'.1 J'.2.1 J'.2.2.1 J'.2.2.2 (Cond.code J'.1 J'.2.1 J'.2.2.1 J'.2.2.2 :: T) R' 0 0 n :=
  ⟨hRm.1, hRm.2.1, hRm.2.2.1, hRm.2.2.2, mx_hws hG hok hw, List.mem_cons_self, hw _ hok.1, hw _ hok.2.1, ⟨hok.2.2.2.1, hok.2.2.2.2.1⟩, mx_par hok.2.2.2.2.2, hw _ hlk⟩
theorem mx_callN {T : List Cond} {J' : mx_J} {R' R : Room} {n idx : Nat} {own host : String} {args : Array Value} {s : State} (hG : mx_G T) (hok : mx_ok T J' n) (hw : ∀ w ∈ T, w.before args s = true) (hRm : mx_rm R' R J'.2.2.1) (hlk : Cond.methodLinkNest own idx J'.1 host ∈ T) : va_CN R s args own idx J'.1 host J'.2.1 J'.2.2.1 J'.2.2.2 (Cond.code J'.1 J'.2.1 J'.2.2.1 J'.2.2.2 :: T) R' 0 0 n :=
  ⟨⟨hRm.1, hRm.2.1, hRm.2.2.1, hRm.2.2.2, mx_hws hG hok hw, List.mem_cons_self⟩, hw _ hok.1, hw _ hok.2.1, ⟨hok.2.2.2.1, hok.2.2.2.2.1⟩, mx_par hok.2.2.2.2.2, hw _ hlk⟩
section MXC
variable {K : Nat → Addr → State → State → Prop} {T : List Cond} {cl : List vw_C} {J : mx_J} {R : Room} {k : Nat} {ls rest : List Value} {hp : List va_E} {Q : mx_O → List va_E → Prop}
theorem mx_after {p : Program} {l : Launch} {e : Env} {s : State} {m : MethodId} {args : Array Value} {below : List Frame} {meth : Method} {c : Code} {D : va_G} {dT : Nat → ClassId} {q : Nat → Nat} {A : Nat → Prop} {H : Heap} {locs : List Loc} {lsA : Array Slot} {st0 : List Value} {av : Array Value} {Qc : mx_O → List va_E → Prop}
    (hr : va_Run p l e R s m args below meth c H locs 0 0 0 0 (F0 m k lsA st0) (rest.map (mx_v q)) (mx_Qc D cl dT q (va_A (mx_w q dT hp) H.size) Qc av) (va_A (mx_w q dT hp) H.size))
    (hC : mx_C T cl J l p s m args meth c D dT A) (hl : lv_has lsA J.2.2.1 (mx_l q ls)) (hP : va_P D cl (mx_w q dT hp) H) (hD : va_D A (mx_w q dT hp)) (hS : va_S A s.heap H locs)
    (next : ∀ v hp', Qc (.inl v) hp' → mx_W K T cl J R (k + 3) ls (v.toList ++ rest) hp' Q) :
    W p l e R s m args below meth c H locs 0 0 (mx_Z K D cl dT q A Q below s) (F0 m k lsA st0) := by
  have hA : ∀ r, va_A (mx_w q dT hp) H.size r → A r := by
    intro r h
    rcases h with ⟨j, x, h⟩ | h
    · exact hD.2 j _ h
    · exact hC.2.2.2.2.2.2.2.2.1 r (Nat.le_trans hS.1 h)
  intro Tt hT X
  obtain ⟨v, st₀, t, T', L, h0, X', hL, e1, e2, ⟨w, hp', hv, hq, hP1, hD1, hz, hk⟩, st⟩ := hr Tt hT X
  have hv := Outcome.returned.inj hv
  subst hv
  rw [h0] at hz hk
  have hS1 : va_S A s.heap T'.heap (locs ++ L) := ⟨Nat.le_trans hS.1 (by rw [e1]; exact hz), fun r h1 h2 => by rw [e1, hk r (Nat.lt_of_lt_of_le h1 hS.1) (fun z => h2 (hA r z))]; exact hS.2.1 r h1 h2, fun r hr => by
    rcases List.mem_append.mp hr with h | h
    · exact hS.2.2 r h
    · exact hA _ (hL r h)⟩
  obtain ⟨t2, a1, b1⟩ := next w hp' hq l p e s m args below meth c D dT q A T'.heap (locs ++ L) lsA hC hl (by rw [e1]; exact hP1) (hD1.weaken (fun _ y _ h => hA y.1 h)) hS1 T' rfl X'
  refine ⟨t2, st t2 ?_, b1⟩
  cases w <;> exact a1

theorem mx_V {J' : mx_J} {R' : Room} {idx n : Nat} {b ci : Nat} {fs : List Value} {r : vw_C} {st : List Value} {Qc : mx_O → List va_E → Prop} (as rest : List Value) (hd : decode J.2.1 k = .ok (.invokevirtual idx, 3)) (hst : st = as.reverse ++ .ref b :: rest) (hG : mx_G T) (hok : mx_ok T J' n) (hV : Cond.instanceMethod J'.1 ∈ T ∧ Cond.selects J'.1.cls J'.1 J'.1 ∈ T) (hlk : mx_lk T J.1.cls idx J'.1) (hRm : mx_rm R' R J'.2.2.1) (hn : as.length = n) (hc1 : mx_cat1 (.ref b :: as) = true) (hle : (.ref b :: as).length ≤ J'.2.2.1) (hrest : (rest.map fun v => v.category).sum ≤ 8) (hb : hp[b]? = some (.inr (ci, fs))) (hci : cl[ci]? = some r) (hr : r.1 = J'.1.cls) 
    (hW : mx_W K T cl J' R' 0 (mx_pad (.ref b :: as) J'.2.2.1) [] hp Qc) (hQc : ∀ X hp', ¬ Qc (.inr X) hp') (next : ∀ v hp', Qc (.inl v) hp' → mx_W K T cl J R (k + 3) ls (v.toList ++ rest) hp' Q) : mx_W K T cl J R k ls st hp Q := by
  subst hst
  intro l p e s m args below meth c D dT q A H locs lsA hC hl hP hD hS
  have hw := hC.2.2.2.2.2.1
  have hM := mx_met l D dT q H.size hok.2.2.1 hc1 hle hW hQc
  have hr8 : ((rest.map (mx_v q)).map fun v => v.category).sum ≤ 8 := by rw [List.map_map]; simpa [Function.comp_def, mx_v_cat] using hrest
  have hpre : ∀ U : State, U.heap = H → s.WarmedH U.vm → mx_Pc l D cl dT q H.size (.ref b :: as) hp ((.ref b :: as).map (mx_v q)).toArray U := fun U hU hWm => ⟨rfl, by rw [hU], by rw [hU]; exact hP, va_K.moved hWm.alike hC.2.2.2.2.2.2.1, hD.weaken (fun _ _ _ _ => trivial), mx_Z0_moved hWm.alike (fun a cell h1 h2 => by rw [hU, hS.2.1 a (Array.getElem?_eq_some_iff.mp h1).1 (fun hA => by have := hC.2.2.2.2.2.2.2.2.2.1 a hA cell h1; rw [h2] at this; cases this)]; exact h1) hC.2.2.2.2.2.2.2.2.2.2.1⟩
  have hbl := mx_blind l D cl dT q H.size (.ref b :: as) hp
  refine W.eq (g2 := F0 m k lsA ((as.map (mx_v q)).reverse ++ .ref (q b) :: rest.map (mx_v q))) (by simp [mx_v]) ?_
  have hrc : ∃ cell : Cell, H[q b]? = some cell ∧ cell.vm.isStatics = false ∧ s.vm.findClass J'.1.cls = some cell.cls := by
    rw [← hr]
    exact va_recv hC.2.2.2.2.2.2.1 hP hci (mx_w_get hb)
  rcases hlk with hlk | ⟨host, hlk⟩
  · exact mx_after (va_runV ⟨hC.1, hC.2.1, hC.2.2.2.1, hC.2.2.2.2.1, hw⟩ hM ⟨mx_callB hG hok hw hRm hlk, hw _ hV.1, hw _ hV.2⟩ ⟨hbl, hrc, hpre⟩ rfl (by simpa using hn) hl.1 rfl (lv_room hr8) hd ⟨Nat.zero_le _, Nat.zero_le _⟩) hC hl hP hD hS next
  · exact mx_after (va_runVN ⟨hC.1, hC.2.1, hC.2.2.2.1, hC.2.2.2.2.1, hw⟩ hM ⟨mx_callN hG hok hw hRm hlk, hw _ hV.1, hw _ hV.2⟩ ⟨hbl, hrc, hpre⟩ rfl (by simpa using hn) hl.1 rfl (lv_room hr8) hd ⟨Nat.zero_le _, Nat.zero_le _⟩) hC hl hP hD hS next
theorem mx_S {J' : mx_J} {R' : Room} {idx n : Nat} {st : List Value} {Qc : mx_O → List va_E → Prop} (as rest : List Value) (hd : decode J.2.1 k = .ok (.invokestatic idx, 3)) (hst : st = as.reverse ++ rest) (hG : mx_G T) (hok : mx_ok T J' n) (hV : Cond.static J'.1 ∈ T) (hlk : mx_lk T J.1.cls idx J'.1) (hRm : mx_rm R' R J'.2.2.1) (hn : as.length = n) (hc1 : mx_cat1 as = true) (hle : as.length ≤ J'.2.2.1) (hrest : (rest.map fun v => v.category).sum ≤ 8) 
    (hW : mx_W K T cl J' R' 0 (mx_pad as J'.2.2.1) [] hp Qc) (hQc : ∀ X hp', ¬ Qc (.inr X) hp') (next : ∀ v hp', Qc (.inl v) hp' → mx_W K T cl J R (k + 3) ls (v.toList ++ rest) hp' Q) : mx_W K T cl J R k ls st hp Q := by
  subst hst
  intro l p e s m args below meth c D dT q A H locs lsA hC hl hP hD hS
  have hw := hC.2.2.2.2.2.1
  have hM := mx_met l D dT q H.size hok.2.2.1 hc1 hle hW hQc
  have hr8 : ((rest.map (mx_v q)).map fun v => v.category).sum ≤ 8 := by rw [List.map_map]; simpa [Function.comp_def, mx_v_cat] using hrest
  have hpre : ∀ U : State, U.heap = H → s.WarmedH U.vm → mx_Pc l D cl dT q H.size as hp (as.map (mx_v q)).toArray U := fun U hU hWm => ⟨rfl, by rw [hU], by rw [hU]; exact hP, va_K.moved hWm.alike hC.2.2.2.2.2.2.1, hD.weaken (fun _ _ _ _ => trivial), mx_Z0_moved hWm.alike (fun a cell h1 h2 => by rw [hU, hS.2.1 a (Array.getElem?_eq_some_iff.mp h1).1 (fun hA => by have := hC.2.2.2.2.2.2.2.2.2.1 a hA cell h1; rw [h2] at this; cases this)]; exact h1) hC.2.2.2.2.2.2.2.2.2.2.1⟩
  have hbl := mx_blind l D cl dT q H.size as hp
  refine W.eq (g2 := F0 m k lsA ((as.map (mx_v q)).reverse ++ rest.map (mx_v q))) (by simp [mx_v]) ?_
  rcases hlk with hlk | ⟨host, hlk⟩
  · exact mx_after (va_runS ⟨hC.1, hC.2.1, hC.2.2.2.1, hC.2.2.2.2.1, hw⟩ hM ⟨mx_callB hG hok hw hRm hlk, hw _ hV⟩ ⟨hbl, hpre⟩ rfl (by simpa using hn) hl.1 rfl (lv_room hr8) hd ⟨Nat.zero_le _, Nat.zero_le _⟩) hC hl hP hD hS next
  · exact mx_after (va_runSN ⟨hC.1, hC.2.1, hC.2.2.2.1, hC.2.2.2.2.1, hw⟩ hM ⟨mx_callN hG hok hw hRm hlk, hw _ hV, trivial⟩ ⟨hbl, hpre⟩ rfl (by simpa using hn) hl.1 rfl (lv_room hr8) hd ⟨Nat.zero_le _, Nat.zero_le _⟩) hC hl hP hD hS next
theorem mx_copyi {idx b0 b1 n0 n1 : Nat} {f g : Nat → Int32} {sp dp n : Int32} (hd : decode J.2.1 k = .ok (.invokestatic idx, 3)) (w1 : Cond.methodLink J.1.cls idx arraycopyName ∈ T) (w2 : Cond.native arraycopyName ∈ T) (w3 : Cond.static arraycopyName ∈ T) (w4 : Cond.initialized "java/lang/System" ∈ T)
    (hb0 : hp[b0]? = some (.inl (0, n0, .inl f))) (hb1 : hp[b1]? = some (.inl (0, n1, .inl g))) (h1 : ¬ sp < 0) (h2 : ¬ dp < 0) (h3 : ¬ n < 0) (h4 : sp.toNatClampNeg + n.toNatClampNeg ≤ n0) (h5 : dp.toNatClampNeg + n.toNatClampNeg ≤ n1)
    (hfr : 1 ≤ R.frames) (hlo : (rest.map fun v => v.category).sum + (nativeFrameWords "java/lang/System" "arraycopy" 5 + 11) ≤ R.locals)
    (kk : mx_W K T cl J R (k + 3) ls rest (hp.set b1 (.inl (0, n1, .inl (va_cpy f g sp.toNatClampNeg dp.toNatClampNeg n.toNatClampNeg)))) Q) : mx_W K T cl J R k ls (.int n :: .int dp :: .ref b1 :: .int sp :: .ref b0 :: rest) hp Q := by
  intro l p e s m args below meth c D dT q A H locs lsA hC hl hP hD hS
  have hw := hC.2.2.2.2.2.1
  refine va_copyi hC.1 hC.2.1 (hC.2.2.2.1.trans hl.1.symm) hC.2.2.2.2.1 (hw _ w1) (hw _ w2) (hw _ w3) (hw _ w4) hC.2.2.2.2.2.2.1 hP hD hS b0 b1 0 0 (mx_w_get hb0) (mx_w_get hb1) rfl rfl rfl h1 h2 h3 h4 h5 (fun _ _ => rfl) hfr (by rw [List.map_map]; simpa [Function.comp_def, mx_v_cat] using hlo) hd (fun H1 locs1 hP1 hD1 hS1 => ?_)
  have e1 := mx_w_set q dT hp b1 (.inl (0, n1, .inl (va_cpy f g sp.toNatClampNeg dp.toNatClampNeg n.toNatClampNeg)))
  exact kk l p e s m args below meth c D dT q A H1 locs1 lsA hC hl (e1 ▸ hP1) (e1 ▸ hD1) hS1
theorem mx_copyl {idx b0 b1 n0 n1 : Nat} {f g : Nat → Int64} {sp dp n : Int32} (hd : decode J.2.1 k = .ok (.invokestatic idx, 3)) (w1 : Cond.methodLink J.1.cls idx arraycopyName ∈ T) (w2 : Cond.native arraycopyName ∈ T) (w3 : Cond.static arraycopyName ∈ T) (w4 : Cond.initialized "java/lang/System" ∈ T)
    (hb0 : hp[b0]? = some (.inl (1, n0, .inr (.inl f)))) (hb1 : hp[b1]? = some (.inl (1, n1, .inr (.inl g)))) (h1 : ¬ sp < 0) (h2 : ¬ dp < 0) (h3 : ¬ n < 0) (h4 : sp.toNatClampNeg + n.toNatClampNeg ≤ n0) (h5 : dp.toNatClampNeg + n.toNatClampNeg ≤ n1)
    (hfr : 1 ≤ R.frames) (hlo : (rest.map fun v => v.category).sum + (nativeFrameWords "java/lang/System" "arraycopy" 5 + 11) ≤ R.locals)
    (kk : mx_W K T cl J R (k + 3) ls rest (hp.set b1 (.inl (1, n1, .inr (.inl (va_cpy f g sp.toNatClampNeg dp.toNatClampNeg n.toNatClampNeg))))) Q) : mx_W K T cl J R k ls (.int n :: .int dp :: .ref b1 :: .int sp :: .ref b0 :: rest) hp Q := by
  intro l p e s m args below meth c D dT q A H locs lsA hC hl hP hD hS
  have hw := hC.2.2.2.2.2.1
  refine va_copyl hC.1 hC.2.1 (hC.2.2.2.1.trans hl.1.symm) hC.2.2.2.2.1 (hw _ w1) (hw _ w2) (hw _ w3) (hw _ w4) hC.2.2.2.2.2.2.1 hP hD hS b0 b1 1 1 (mx_w_get hb0) (mx_w_get hb1) rfl rfl rfl h1 h2 h3 h4 h5 (fun _ _ => rfl) hfr (by rw [List.map_map]; simpa [Function.comp_def, mx_v_cat] using hlo) hd (fun H1 locs1 hP1 hD1 hS1 => ?_)
  have e1 := mx_w_set q dT hp b1 (.inl (1, n1, .inr (.inl (va_cpy f g sp.toNatClampNeg dp.toNatClampNeg n.toNatClampNeg))))
  exact kk l p e s m args below meth c D dT q A H1 locs1 lsA hC hl (e1 ▸ hP1) (e1 ▸ hD1) hS1
end MXC
end
section
/-! The engine, third part: throw new X(); a callee that throws. -/
def mx_xn : Nat → String
  | 0 => "java/lang/IllegalArgumentException"
  | 1 => "java/lang/UnsupportedOperationException"
  | 2 => "java/util/NoSuchElementException"
  | _ => "java/lang/IllegalStateException"
def mx_up : List String := ["java/lang/RuntimeException", "java/lang/Exception"]
/-- the thrown object: a new cell of its class -/
def mx_K (X : Nat) (a : Addr) (s t : State) : Prop := s.heap.size ≤ a ∧ ∃ ce : Cell, t.heap[a]? = some ce ∧ s.vm.findClass (mx_xn X) = some ce.cls ∧ ce.vm = .none
theorem mx_Sf_isRef {C n d : String} {s : State} {args : Array Value} (h : mx_Sf C n d s) : (Cond.isRef (.static C n d)).before args s = true := by
  obtain ⟨cf, kf, fi, f, a, cell, v, h1, h2, h3, h4, h5, h6, h7, -⟩ := h
  rcases h7 with rfl | ⟨t, rfl⟩ <;> simp [Cond.before, Cond.holds, Cond.value, Term.eval, State.fieldNamed?, h1, h2, h3, h4, h5, h6]
theorem mx_Sf_lays {C n d : String} {s : State} {args : Array Value} (h : mx_Sf C n d s) : (Cond.laysStatic C n d).before args s = true := by
  obtain ⟨cf, kf, fi, f, a, cell, v, h1, h2, h3, h4, h5, h6, h7, h8, h9, h10, h11⟩ := h
  simp [Cond.before, Cond.holds, Cond.value, h8, h1, h3, h4, h2, h5, h9, h10, h11]
theorem mx_same_old {s t : State} {k n : Nat} (h : s.sameButNew t [] k n) {r : Nat} {cell : Cell} (hr : s.heap[r]? = some cell) : t.heap[r]? = some cell := by
  obtain ⟨c', h1, h2, h3, h4⟩ := h.2.2.2.2.2 r cell hr
  have e : c'.slots = cell.slots := by
    apply Array.ext h3
    intro i hi hi2
    have := h4 i (by simp)
    rw [Array.getElem?_eq_getElem hi, Array.getElem?_eq_getElem hi2] at this
    exact Option.some.inj this
  rw [h1, h2, e]
theorem mx_same_base {s t : State} {F : List Frame} {L : List Loc} {k n : Nat} (h : (s.setFrames F).sameButNew t L k n) : s.sameButNew t L k n := by
  obtain ⟨h1, h2⟩ := h
  refine ⟨?_, h2⟩
  rw [State.setFrames_setFrames] at h1
  exact h1
section MXT
variable {p : Program} {l : Launch} {e : Env} {R : Room} {s : State} {m : MethodId} {args : Array Value} {below : List Frame} {meth : Method} {c : Code} {Tt : State} {locs : List Loc}
/-- the same place, reckoned from the heap as it stands now -/
theorem mx_rebase (X : Stand p l e R s m args below meth c Tt locs 0 0) : Stand p l e R (Tt.setFrames (.invoking m args :: below)) m args below meth c Tt [] 0 0 := by
  obtain ⟨g₀, hfr⟩ := X.frames_eq
  have hcur : Tt.cur < Tt.threads.size := State.cur_lt_of_frames hfr
  have hf : (Tt.setFrames (.invoking m args :: below)).frames = .invoking m args :: below := State.frames_setFrames _ hcur
  have hm' : (Tt.setFrames (.invoking m args :: below)).vm.method? m = some meth := X.method'
  obtain ⟨th, hth, -⟩ := State.frames_cons hfr
  refine ⟨X.admits, X.cas, X.clock, hf, ?_, ?_, hm', X.code, X.here, X.tail, State.WarmedH.refl (Tt.setFrames (.invoking m args :: below)), ?_, ?_, ?_⟩
  · have hr := X.room
    have l1 := State.localsInUse_invoking X.frames X.method X.code
    have l2 := State.localsInUse_invoking hf hm' X.code
    have l3 : (Tt.setFrames (.invoking m args :: below)).localsInUse = s.localsInUse := by rw [l1, l2]
    have l4 : e.platform.stackLimits (Tt.setFrames (.invoking m args :: below)).me = e.platform.stackLimits s.me := by rw [State.stackLimits_setFrames]; exact X.limits
    have l5 : (Tt.setFrames (.invoking m args :: below)).me.stackBytes = s.me.stackBytes := by rw [State.stackBytes_setFrames]; exact X.bytes
    have l6 : (Tt.setFrames (.invoking m args :: below)).slotsTrue = true := X.book
    have l7 : (Tt.setFrames (.invoking m args :: below)).heap.size ≤ s.heap.size + 0 := X.heapSize
    have l8 : (Tt.setFrames (.invoking m args :: below)).slotsUsed ≤ s.slotsUsed + 0 := X.used
    simp only [State.hasRoom, Bool.and_eq_true, decide_eq_true_eq] at hr ⊢
    rw [l3, l4, l5, hf, l6]
    rw [X.frames] at hr
    obtain ⟨⟨⟨⟨r1, r2⟩, r3⟩, r4⟩, r5⟩ := hr
    exact ⟨⟨⟨⟨r1, r2⟩, by omega⟩, by omega⟩, rfl⟩
  · have hh := X.hears
    have e1 : ∀ mm, (Tt.setFrames (.invoking m args :: below)).code? mm = s.code? mm := fun mm => by
      rw [State.code?_eq, State.code?_eq]
      show (Tt.vm.method? mm).bind _ = _
      rw [X.warmed.alike.method?]
    cases below with
    | nil =>
      have e2 : (Tt.setFrames (.invoking m args :: [])).vm.method? m = s.vm.method? m := X.warmed.alike.method? m
      simp only [State.hears] at hh ⊢
      rw [e2]
      exact hh
    | cons f fs =>
      cases f <;> first
        | (simp only [State.hears] at hh ⊢; rw [e1]; exact hh)
        | (simp only [State.hears]; done)
        | (simp only [State.hears] at hh ⊢
           rw [show (Tt.setFrames _).vm.method? m = s.vm.method? m from X.warmed.alike.method? m]
           exact hh)
  · rw [State.stackLimits_setFrames]
  · rw [State.stackBytes_setFrames]
  · have hc2 : (Tt.setFrames (.invoking m args :: below)).cur < (Tt.setFrames (.invoking m args :: below)).threads.size := State.cur_lt_of_frames hf
    obtain ⟨th2, hth2, -⟩ := State.frames_cons hf
    have h := (State.sameButNew.refl (Tt.setFrames (.invoking m args :: below)) hth2).setFrames Tt.frames hc2
    rw [State.setFrames_setFrames, State.setFrames_self hth] at h
    exact h
end MXT
section MXU
variable {T : List Cond} {cl : List vw_C} {J : mx_J} {R : Room} {k : Nat} {ls : List Value} {hp : List va_E} {Q : mx_O → List va_E → Prop}
set_option maxHeartbeats 2000000 in
theorem mx_throw {idx ic : Nat} {st : List Value} (X : Nat) (hd0 : decode J.2.1 k = .ok (.new idx, 3)) (hd3 : decode J.2.1 (k + 3) = .ok (.dup, 1)) (hd4 : decode J.2.1 (k + 3 + 1) = .ok (.invokespecial ic, 3)) (hd7 : decode J.2.1 (k + 3 + 1 + 3) = .ok (.athrow, 1))
    (hG : mx_G T) (w1 : Cond.classLink J.1.cls idx (mx_xn X) ∈ T) (w2 : Cond.instantiable (mx_xn X) 6 ∈ T) (w3 : Cond.initialized (mx_xn X) ∈ T) (hfit : Bundle.fit (mx_xn X) = true)
    (hat : ∀ a ∈ Bundle.ownAtoms0 J.1.cls ic (mx_xn X) mx_up, a ∈ T ∨ a = .isRef (.static "java/lang/Throwable" "UNASSIGNED_STACK" "[Ljava/lang/StackTraceElement;") ∨ a = .isRef (.static "java/lang/Throwable" "SUPPRESSED_SENTINEL" "Ljava/util/List;") ∨ a = .laysStatic "java/lang/Throwable" "UNASSIGNED_STACK" "[Ljava/lang/StackTraceElement;" ∨ a = .laysStatic "java/lang/Throwable" "SUPPRESSED_SENTINEL" "Ljava/util/List;")
    (hRf : 5 < R.frames) (hRl : (st.map fun v => v.category).sum + 81 ≤ R.locals) (hRc : 1 ≤ R.cells) (hRs : 6 ≤ R.slots) (hQ : Q (.inr X) hp) : mx_W mx_K T cl J R k ls st hp Q := by
  intro l p e s m args below meth c D dT q A H locs lsA hC hl hP hD hS
  have hw := hC.2.2.2.2.2.1
  have hlocks : meth.locks = false := hC.2.2.2.2.2.2.2.1
  have hout : ∀ (pc : Nat), ∀ x ∈ c.exceptionTable.toList, covers x pc = false := fun pc x hx => by
    have h0 := hC.2.2.2.2.2.2.2.2.2.2.2
    rw [Array.isEmpty_iff.mp h0] at hx
    cases hx
  intro Tt hT Xs
  have hWm : s.WarmedH Tt.vm := Xs.warmed
  have hb' : (Tt.setFrames (.invoking m args :: below)).heap = H := hT
  have hkeep : ∀ (a : Nat) (cell : Cell), s.heap[a]? = some cell → cell.vm.isStatics = true → (Tt.setFrames (.invoking m args :: below)).heap[a]? = some cell := fun a cell h1 h2 => by
    rw [hb', hS.2.1 a (Array.getElem?_eq_some_iff.mp h1).1 (fun hA => by have := hC.2.2.2.2.2.2.2.2.2.1 a hA cell h1; rw [h2] at this; cases this)]
    exact h1
  have hZ := mx_Z0_moved (U := Tt.setFrames (.invoking m args :: below)) hWm.alike hkeep hC.2.2.2.2.2.2.2.2.2.2.1
  have hw' : ∀ w ∈ T, w.before args (Tt.setFrames (.invoking m args :: below)) = true := fun w h => mx_warm (U := Tt.setFrames (.invoking m args :: below)) (hG w h) hWm (hw w h)
  have hown : (Tt.setFrames (.invoking m args :: below)).vm.findClass J.1.cls = some m.cls := by
    show Tt.vm.findClass _ = _
    rw [hWm.alike.findClass]
    exact hC.2.2.2.2.1
  have hfin : ∀ (n : String), (Tt.setFrames (.invoking m args :: below)).vm.findClass n = s.vm.findClass n := fun n => hWm.alike.findClass n none
  have hat' : ∀ a ∈ Bundle.ownAtoms0 J.1.cls ic (mx_xn X) mx_up, a.before args (Tt.setFrames (.invoking m args :: below)) = true := fun a ha => by
    rcases hat a ha with h | rfl | rfl | rfl | rfl
    · exact hw' a h
    · exact mx_Sf_isRef hZ.2.1
    · exact mx_Sf_isRef hZ.2.2
    · exact mx_Sf_lays hZ.2.1
    · exact mx_Sf_lays hZ.2.2
  have X' := mx_rebase Xs
  generalize hs' : Tt.setFrames (.invoking m args :: below) = s' at X' hw' hown hat' hb' hfin hZ
  have key : W p l e R s' m args below meth c H [] 0 0 (fun t => t.status = .running ∧ Ended t below (.threw H.size) ∧ s'.WarmedH t.vm ∧ s'.sameButNew ({ t with vm := s'.vm } : State) [] 1 6 ∧ ∃ ce, t.heap[H.size]? = some ce ∧ Bundle.OwnCell args s' (mx_xn X) H.size .null ce) (F0 m k lsA (st.map (mx_v q))) := by
    refine W.newc hC.1 hC.2.1 hown (hw' _ w1) (hw' _ w2) (hw' _ w3) rfl hd0 (by omega) (by omega) (fun cX kX hfc hkX hord hsz => ?_)
    refine lv_dup (pc := k + 3) hC.1 hC.2.1 hd3 rfl ?_
    intro T2 hT2 X2
    obtain ⟨U, h1, h2, h3, h4, h5, ce, h6, h7⟩ := X2.ctorThrow0 hC.1 (hZ.1 e X2.admits) (own := J.1.cls) (cls := mx_xn X) (names := mx_up) (ic := ic) hown hfit (by decide +kernel) hat' (fun x hx => by cases hx) hfc hkX (a := H.size) (by rw [hT2]; exact Array.getElem?_push_size) (by rw [hb']; exact Nat.le_refl _) (g := F0 m (k + 3 + 1) lsA (.ref H.size :: .ref H.size :: st.map (mx_v q))) rfl (hl.1.trans hC.2.2.2.1.symm) rfl rfl rfl (by rw [hC.2.1]; exact hd4) (by rw [hC.2.1]; exact hd7) (hout _) hRf (by
        have e1 : ((st.map (mx_v q)).map fun v => v.category).sum = (st.map fun v => v.category).sum := by rw [List.map_map]; simp [Function.comp_def, mx_v_cat]
        show 2 * 0 + ((1 : Nat) + ((st.map (mx_v q)).map fun v => v.category).sum) + (13 * (2 + 1) + 41) ≤ R.locals
        rw [e1]
        omega) hlocks
    exact ⟨U, h1, h2, h3, h4, h5, ce, h6, h7⟩
  obtain ⟨t, a1, b1, b2, b3, b4, ce, b6, b7⟩ := key Tt hT X'
  have hold : ∀ r : Nat, r < H.size → t.heap[r]? = H[r]? := fun r hr => by
    have h1 : s'.heap[r]? = some H[r] := by rw [hb']; exact Array.getElem?_eq_getElem hr
    have h2 := mx_same_old b4 h1
    rw [Array.getElem?_eq_getElem hr]
    exact h2
  have hsz : H.size ≤ t.heap.size := by
    have h1 := b4.2.1
    rw [hb'] at h1
    exact h1
  refine ⟨t, a1, .threw H.size, .inr X, hp, b1, b2, hQ, hP.kept (fun j x hx => hold x.1 (hP j x hx).lt), hD, ⟨Nat.le_trans hS.1 hsz, fun r h1 h2 => ?_⟩, H.size, rfl, ⟨hS.1, ce, b6, ?_, b7.vm⟩, locs, ⟨⟨_, rfl⟩, ?_, ?_⟩, hS.2.2⟩
  · rw [hold r (Nat.lt_of_lt_of_le h1 hS.1)]
    exact hS.2.1 r h1 h2
  · rw [← hfin]
    exact b7.cls
  · refine State.WarmedH.trans hWm ?_
    rw [← hs'] at b3
    exact b3
  · rw [← hs'] at b4
    have h1 := mx_same_base b4
    have h2 := Xs.same.trans (h1.setVm s.vm)
    rw [List.append_nil] at h2
    exact h2
end MXU
end
section
/-! The engine, fourth part: a call whose callee throws: the caller throws the same. -/
def mx_QT (D : va_G) (cl : List vw_C) (dT : Nat → ClassId) (q : Nat → Nat) (A : Nat → Prop) (Q : mx_O → List va_E → Prop) : Array Value → State → Outcome → State → Prop := fun _ st o t =>
  ∃ (r : mx_O) (hp' : List va_E), Q r hp' ∧ va_P D cl (mx_w q dT hp') t.heap ∧ va_D A (mx_w q dT hp') ∧ va_F A st t ∧ mx_end q A mx_K st o r t
theorem mx_metT {T : List Cond} {cl : List vw_C} {J : mx_J} {R : Room} {hp : List va_E} {Q : mx_O → List va_E → Prop} {vs : List Value} (l : Launch) (D : va_G) (dT : Nat → ClassId) (q : Nat → Nat) (sz : Nat)
    (hy : plainName J.1.cls = true) (hc : mx_cat1 vs = true) (hlen : vs.length ≤ J.2.2.1) (hW : mx_W mx_K T cl J R 0 (mx_pad vs J.2.2.1) [] hp Q) :
    MetFree l J.1 (headSpec (Cond.code J.1 J.2.1 J.2.2.1 J.2.2.2 :: T) R) (mx_Pc l D cl dT q sz vs hp) (fun _ _ _ _ _ => True) (mx_QT D cl dT q (va_A (mx_w q dT hp) sz) Q) := by
  refine MetFree.of_bodyS (code := J.2.1) (maxLocals := J.2.2.1) (ret := J.2.2.2) hy ?_ ?_
  · intro args s m h hn
    obtain ⟨meth, c, h1, h2, h3, h4, h5, h6, -, -⟩ := Cond.code_spec hn (atoms_spec (ws := Cond.code J.1 J.2.1 J.2.2.1 J.2.2.2 :: T) h _ List.mem_cons_self)
    exact ⟨meth, c, h1, h2, h3, h4, h5, h6⟩
  · intro p e s m args below meth c s₁ B hml hv _
    obtain ⟨rfl, hsz, hP, hK, hD0, hZ0⟩ := hv
    subst hsz
    have hts := atoms_spec (ws := Cond.code J.1 J.2.1 J.2.2.1 J.2.2.2 :: T) B.pre
    have hh0 : s₁.heap = s.heap := by rw [B.state]; rfl
    obtain ⟨t, a1, o, r, hp', h1, h2, h3⟩ := hW l p e s m _ below meth c D dT q _ s.heap [] _ ⟨B.exec, B.bytes, B.returns, hml, findClass_of_methodNamed B.named, fun w hw => hts w (List.mem_cons_of_mem _ hw), hK, B.notSynchronized, fun r h => Or.inr h, mx_nostat hP, hZ0, B.noHandlers (hts _ List.mem_cons_self)⟩ (mx_entry hc hlen) hP hD0.self va_S.rf s₁ hh0 (Stand.of_body B)
    refine ⟨t, o, ?_, h1, h2, r, hp', h3⟩
    rw [lg_entry_eq]
    exact a1
def mx_rmT (R' R : Room) (nL : Nat) : Prop := R'.cells ≤ R.cells ∧ R'.slots ≤ R.slots ∧ R'.frames + 1 ≤ R.frames ∧ 8 + (nL + 11) + R'.locals ≤ R.locals
section MXV
variable {T : List Cond} {cl : List vw_C} {J : mx_J} {R : Room} {k : Nat} {ls : List Value} {hp : List va_E} {Q : mx_O → List va_E → Prop}
set_option maxHeartbeats 2000000 in
theorem mx_VT {J' : mx_J} {R' : Room} {idx n : Nat} {b ci : Nat} {fs : List Value} {r : vw_C} {st : List Value} {Qc : mx_O → List va_E → Prop} (as rest : List Value) (hd : decode J.2.1 k = .ok (.invokevirtual idx, 3)) (hst : st = as.reverse ++ .ref b :: rest) (hG : mx_G T) (hok : mx_ok T J' n) (hV : Cond.instanceMethod J'.1 ∈ T ∧ Cond.selects J'.1.cls J'.1 J'.1 ∈ T) (hlk : Cond.methodLink J.1.cls idx J'.1 ∈ T) (hRm : mx_rmT R' R J'.2.2.1) (hn : as.length = n) (hc1 : mx_cat1 (.ref b :: as) = true) (hle : (.ref b :: as).length ≤ J'.2.2.1) (hrest : (rest.map fun v => v.category).sum ≤ 8) (hb : hp[b]? = some (.inr (ci, fs))) (hci : cl[ci]? = some r) (hr : r.1 = J'.1.cls)
    (hW : mx_W mx_K T cl J' R' 0 (mx_pad (.ref b :: as) J'.2.2.1) [] hp Qc) (hQc : ∀ v hp', ¬ Qc (.inl v) hp') (next : ∀ X hp', Qc (.inr X) hp' → Q (.inr X) hp') : mx_W mx_K T cl J R k ls st hp Q := by
  subst hst
  intro l p e s m args below meth c D dT q A H locs lsA hC hl hP hD hS
  have hw := hC.2.2.2.2.2.1
  have hlocks : meth.locks = false := hC.2.2.2.2.2.2.2.1
  have hM := mx_metT l D dT q H.size hok.2.2.1 hc1 hle hW
  have hr8 : ((rest.map (mx_v q)).map fun v => v.category).sum ≤ 8 := by rw [List.map_map]; simpa [Function.comp_def, mx_v_cat] using hrest
  have hA : ∀ r, va_A (mx_w q dT hp) H.size r → A r := by
    intro r h
    rcases h with ⟨j, x, h⟩ | h
    · exact hD.2 j _ h
    · exact hC.2.2.2.2.2.2.2.2.1 r (Nat.le_trans hS.1 h)
  have hkeep : ∀ (U : State), U.heap = H → ∀ (a : Nat) (cell : Cell), s.heap[a]? = some cell → cell.vm.isStatics = true → U.heap[a]? = some cell := fun U hU a cell h1 h2 => by
    rw [hU, hS.2.1 a (Array.getElem?_eq_some_iff.mp h1).1 (fun hA => by have := hC.2.2.2.2.2.2.2.2.2.1 a hA cell h1; rw [h2] at this; cases this)]
    exact h1
  obtain ⟨cellB, hcB, hoB, hclB⟩ : ∃ cell : Cell, H[q b]? = some cell ∧ cell.vm.isStatics = false ∧ s.vm.findClass J'.1.cls = some cell.cls := by
    rw [← hr]
    exact va_recv hC.2.2.2.2.2.2.1 hP hci (mx_w_get hb)
  refine W.eq (g2 := F0 m k lsA ((as.map (mx_v q)).reverse ++ .ref (q b) :: rest.map (mx_v q))) (by simp [mx_v]) ?_
  intro Tt hT X
  have hy : J'.1.cls ≠ "java/lang/invoke/MethodHandle" ∧ J'.1.cls ≠ "java/lang/invoke/VarHandle" := ⟨hok.2.2.2.1, hok.2.2.2.2.1⟩
  obtain ⟨mk, methM, hnamed, hmethM, hstM, habM⟩ := Cond.instanceMethod_spec (hw _ hV.1)
  obtain ⟨methM', cM, hmethM', -, -, -, -, -, -, hsigM⟩ := Cond.code_spec hnamed (hw _ hok.1)
  cases hmethM.symm.trans hmethM'
  obtain ⟨c2, r2, m2, q1, q2, q3, q4, kP, hkP, hkPi⟩ := Cond.selects_spec (hw _ hV.2)
  cases hclB.symm.trans q1
  cases (State.methodFound?_of_named hnamed hy).symm.trans q2
  cases hnamed.symm.trans q3
  have hselP : selectMethod e.platform s.vm cellB.cls mk = .method mk := by rw [Launch.admits_selectMethod X.admits]; exact q4
  have hdg : decode c.code k = .ok (.invokevirtual idx, 3) := by rw [hC.2.1]; exact hd
  obtain ⟨vm₁, X₁, hstep₁⟩ := X.invokevirtual hC.1 hC.2.2.2.2.1 (hw _ hlk) hnamed hmethM hstM hkP hkPi hy (a := q b) (cell := cellB) (by rw [hT]; exact hcB)
    (fun z h => by rw [h] at hoB; cases hoB) hselP hmethM habM hkP hkPi (g := F0 m k lsA ((as.map (mx_v q)).reverse ++ .ref (q b) :: rest.map (mx_v q))) rfl (argsL := as.map (mx_v q)) (rest := rest.map (mx_v q)) (by rw [List.length_map, hn]; exact mx_par hok.2.2.2.2.2 _ hsigM) rfl hdg
  have hU : (Tt.setVm vm₁).heap = H := hT
  have hW1 : s.WarmedH (Tt.setVm vm₁).vm := X₁.warmed
  have hws := mx_hws hG hok hw
  have hsz : lsA.size = c.maxLocals := hl.1.trans hC.2.2.2.1.symm
  have happ : (headSpec (Cond.code J'.1 J'.2.1 J'.2.2.1 J'.2.2.2 :: T) R').appliesLoose J'.1 e.platform ((Tt.setVm vm₁).calling (F0 m k lsA (rest.map (mx_v q))) mk (Value.ref (q b) :: as.map (mx_v q)).toArray) = true :=
    X₁.appliesAt (S := headSpec (Cond.code J'.1 J'.2.1 J'.2.2.1 J'.2.2.2 :: T) R') (bytes := J'.2.1) (maxL := J'.2.2.1) (ret := J'.2.2.2) (g := F0 m k lsA (rest.map (mx_v q))) rfl hsz hdg (W := 8) (lv_room hr8) (X₁.named hnamed) (atoms_intro fun w h => hws w h _ _ hW1) (hws _ List.mem_cons_self _ _ hW1) (hws _ (List.mem_cons_of_mem _ hok.2.1) _ _ hW1) hRm.2.2.1 hRm.2.2.2 (by rw [Nat.zero_add]; exact hRm.1) (by rw [Nat.zero_add]; exact hRm.2.1)
  have h : At (Tt.setVm vm₁) m c below := X₁.here
  obtain ⟨mid, hmid⟩ := h.above
  have hfr : ((Tt.setVm vm₁).setTop (F0 m k lsA (rest.map (mx_v q)))).frames = (.java (F0 m k lsA (rest.map (mx_v q))) :: mid) ++ below := by rw [State.frames_setTop' _ h.top, hmid]; rfl
  have hPc : mx_Pc l D cl dT q H.size (.ref b :: as) hp (Value.ref (q b) :: as.map (mx_v q)).toArray ((Tt.setVm vm₁).calling (F0 m k lsA (rest.map (mx_v q))) mk (Value.ref (q b) :: as.map (mx_v q)).toArray) :=
    mx_blind l D cl dT q H.size (.ref b :: as) hp _ _ _ _ ⟨rfl, by rw [hU], by rw [hU]; exact hP, va_K.moved hW1.alike hC.2.2.2.2.2.2.1, hD.weaken (fun _ _ _ _ => trivial), mx_Z0_moved hW1.alike (hkeep _ hU) hC.2.2.2.2.2.2.2.2.2.2.1⟩
  obtain ⟨o, s₂, hsteps, -, hend, hq⟩ := Steps.callFree hM p X₁.admits X₁.cas X₁.clock (acts := []) hfr happ hPc trivial
  rw [State.frames_setTop' _ h.top] at hend
  obtain ⟨r, hp', hQ1, hP1, hD1, hF1, hE⟩ := hq
  cases r with
  | inl v => exact absurd hQ1 (hQc v hp')
  | inr Xk =>
    obtain ⟨a, rfl, hKa, L, ⟨-, hW₂, e2, g2, g3, g4, g5, g6⟩, hL⟩ := hE
    have e2' : ({ s₂ with vm := (Tt.setVm vm₁).vm } : State) = { ((Tt.setVm vm₁).calling (F0 m k lsA (rest.map (mx_v q))) mk (Value.ref (q b) :: as.map (mx_v q)).toArray).setFrames s₂.frames with heap := s₂.heap, slotsUsed := s₂.slotsUsed } := e2
    have hW2' : (Tt.setVm vm₁).WarmedH s₂.vm := hW₂
    have hf₂ : s₂.frames = .throwing a :: .java (F0 m k lsA (rest.map (mx_v q))) :: (Tt.setVm vm₁).frames.tail := hend
    obtain ⟨g₀, hg0⟩ := Option.isSome_iff_exists.mp h.top
    obtain ⟨rr, hrr⟩ := State.topJava?_eq_some.mp hg0
    have hs₂ : s₂ = ((({ (Tt.setVm vm₁) with heap := s₂.heap, slotsUsed := s₂.slotsUsed } : State).setVm s₂.vm).setTop (F0 m k lsA (rest.map (mx_v q)))).pushFrame (.throwing a) := by
      have hr' : (({ (Tt.setVm vm₁) with heap := s₂.heap, slotsUsed := s₂.slotsUsed } : State).setVm s₂.vm).frames = .java g₀ :: rr := hrr
      have e3 : s₂ = ({ s₂ with vm := (Tt.setVm vm₁).vm } : State).setVm s₂.vm := rfl
      refine e3.trans ?_
      rw [e2', hf₂, State.calling_eq h.top, State.setFrames_setFrames, State.pushFrame, State.frames_setTop _ hr', State.setTop_of_frames _ hr', State.setFrames_setFrames, hrr]
      rfl
    have hsame : (Tt.setVm vm₁).sameButNew ({ (Tt.setVm vm₁) with heap := s₂.heap, slotsUsed := s₂.slotsUsed } : State) L 1 6 := by
      refine ⟨?_, g2, g3, g4, g5, g6⟩
      obtain ⟨th, hth, -⟩ := State.frames_cons hrr
      show ({ (Tt.setVm vm₁) with heap := s₂.heap, slotsUsed := s₂.slotsUsed } : State) = { (Tt.setVm vm₁).setFrames (Tt.setVm vm₁).frames with heap := s₂.heap, slotsUsed := s₂.slotsUsed }
      rw [State.setFrames_self hth]
    have X₂ : Stand p l e R s m args below meth c (({ (Tt.setVm vm₁) with heap := s₂.heap, slotsUsed := s₂.slotsUsed } : State).setVm s₂.vm) (locs ++ L) (0 + 1) (0 + 6) :=
      ⟨X₁.admits, X₁.cas, X₁.clock, X₁.frames, X₁.room, X₁.hears, X₁.method, X₁.code, (X₁.here.setHeapUsed s₂.heap s₂.slotsUsed).setVm hW2'.alike, X₁.tail, State.WarmedH.trans X₁.warmed hW2', X₁.limits, X₁.bytes, X₁.same.trans (hsame.setVm s.vm)⟩
    obtain ⟨b1, b2, b3, b4, b5⟩ := X₂.leaveThrown a (g := F0 m k lsA (rest.map (mx_v q))) rfl rfl rfl (fun x hx => by
      have h0 := hC.2.2.2.2.2.2.2.2.2.2.2
      rw [Array.isEmpty_iff.mp h0] at hx
      cases hx) hlocks
    rw [← hs₂] at b1
    obtain ⟨hz, hk⟩ := hF1
    have hz : H.size ≤ s₂.heap.size := by rw [← hU]; exact hz
    have hk : ∀ r : Nat, r < H.size → ¬ va_A (mx_w q dT hp) H.size r → s₂.heap[r]? = H[r]? := fun r h1 h2 => by
      have := hk r (by show r < (Tt.setVm vm₁).heap.size; rw [hU]; exact h1) h2
      rw [this]
      show (Tt.setVm vm₁).heap[r]? = _
      rw [hU]
    refine ⟨_, hstep₁ _ (fun acts => by rw [doInvoke_state]; exact hsteps.trans b1), .threw a, .inr Xk, hp', b2, b3, next Xk hp' hQ1, hP1, hD1.weaken (fun _ y _ h => hA y.1 h), ⟨Nat.le_trans hS.1 hz, fun r h1 h2 => ?_⟩, a, rfl, ?_, locs ++ L, ⟨⟨_, rfl⟩, b4, b5⟩, fun x hx => ?_⟩
    · show s₂.heap[r]? = _
      rw [hk r (Nat.lt_of_lt_of_le h1 hS.1) (fun z => h2 (hA r z))]
      exact hS.2.1 r h1 h2
    · obtain ⟨k1, ce, k2, k3, k4⟩ := hKa
      refine ⟨Nat.le_trans hS.1 ?_, ce, k2, ?_, k4⟩
      · rw [← hU]; exact k1
      · have : s.vm.findClass (mx_xn Xk) = (Tt.setVm vm₁).vm.findClass (mx_xn Xk) := (hW1.alike.findClass _ none).symm
        rw [this]
        exact k3
    · rcases List.mem_append.mp hx with h | h
      · exact hS.2.2 x h
      · exact hA _ (hL x h)
end MXV
end
section
/-! Names, laid by program (wip/tools/names.py): words, fields, methods, links. Classes: A MovedRegisters, P Plan, B Bank, O Order, H Paths, L Limits, V Mover, C Clock, G Logic, M the reference. -/
def mT : List Cond := lw_tbl.filter mx_gw
theorem mT_G : mx_G mT := fun w h => (List.mem_filter.mp h).2
theorem mT_of {w : Cond} (h : w ∈ lw_tbl) (hg : mx_gw w = true) : w ∈ mT := List.mem_filter.mpr ⟨h, hg⟩
theorem mT_1 {i : Nat} {w : Cond} (h : tables_1_1[i]? = some w) (hg : mx_gw w = true) : w ∈ mT := mT_of (List.mem_append_right _ (List.mem_append_left _ (List.mem_of_getElem? h))) hg
theorem mT_2 {i : Nat} {w : Cond} (h : tables_1_2[i]? = some w) (hg : mx_gw w = true) : w ∈ mT := mT_of (List.mem_append_right _ (List.mem_append_right _ (List.mem_append_left _ (List.mem_of_getElem? h)))) hg
theorem mT_3 {i : Nat} {w : Cond} (h : tables_1_3[i]? = some w) (hg : mx_gw w = true) : w ∈ mT := mT_of (List.mem_append_right _ (List.mem_append_right _ (List.mem_append_right _ (List.mem_append_left _ (List.mem_of_getElem? h))))) hg
theorem mT_4 {i : Nat} {w : Cond} (h : tables_1_4[i]? = some w) (hg : mx_gw w = true) : w ∈ mT := mT_of (List.mem_append_right _ (List.mem_append_right _ (List.mem_append_right _ (List.mem_append_right _ (List.mem_of_getElem? h))))) hg
theorem mT_s {i n : Nat} {y : MethodName} (h : lw_privs[i]? = some (y, n)) : Cond.selects y.cls y y ∈ mT := mT_of (List.mem_append_left _ (List.mem_map.mpr ⟨(y, n), List.mem_of_getElem? h, rfl⟩)) rfl

def F_A : u_T := fun k => match k with
  | 0 => ("MovedRegisters", "plan", "LMovedRegisters$Plan;", true)
  | 1 => ("MovedRegisters", "bank", "LMovedRegisters$Bank;", true)
  | 2 => ("MovedRegisters", "trial", "LMovedRegisters$Bank;", true)
  | 3 => ("MovedRegisters", "order", "LMovedRegisters$Order;", true)
  | 4 => ("MovedRegisters", "paths", "LMovedRegisters$Paths;", true)
  | 5 => ("MovedRegisters", "limits", "LMovedRegisters$Limits;", true)
  | 6 => ("MovedRegisters", "mover", "LMovedRegisters$Mover;", true)
  | 7 => ("MovedRegisters", "clock", "LMovedRegisters$Clock;", true)
  | _ => ("MovedRegisters", "latest", "[I", true)
def t_A : Nat → FieldType := fun k => match k with
  | 0 => .object "MovedRegisters$Plan"
  | 1 => .object "MovedRegisters$Bank"
  | 2 => .object "MovedRegisters$Bank"
  | 3 => .object "MovedRegisters$Order"
  | 4 => .object "MovedRegisters$Paths"
  | 5 => .object "MovedRegisters$Limits"
  | 6 => .object "MovedRegisters$Mover"
  | 7 => .object "MovedRegisters$Clock"
  | _ => .array .int
theorem n_A : ∀ a, a < 9 → ∀ b, b < 9 → a ≠ b → (F_A a).2.1 ≠ (F_A b).2.1 := by decide +kernel
theorem t_A_ok : ∀ k, k < 9 → parseFieldDescriptor (F_A k).2.2.1 = some (t_A k) := by decide +kernel
theorem fw_A : ∀ w ∈ u_ws "MovedRegisters" F_A 9, w ∈ mT := by
  intro w hw
  obtain ⟨k, hk, rfl⟩ := List.mem_map.mp hw
  have hk := List.mem_range.mp hk
  match k, hk with
  | 0, _ => exact (mT_1 (i := 161) rfl rfl)
  | 1, _ => exact (mT_1 (i := 163) rfl rfl)
  | 2, _ => exact (mT_1 (i := 165) rfl rfl)
  | 3, _ => exact (mT_1 (i := 167) rfl rfl)
  | 4, _ => exact (mT_1 (i := 169) rfl rfl)
  | 5, _ => exact (mT_1 (i := 171) rfl rfl)
  | 6, _ => exact (mT_1 (i := 173) rfl rfl)
  | 7, _ => exact (mT_1 (i := 175) rfl rfl)
  | 8, _ => exact (mT_1 (i := 177) rfl rfl)
  | j + 9, h => exact absurd h (by omega)
def F_P : u_T := fun k => match k with
  | 0 => ("MovedRegisters$Plan", "count", "I", false)
  | 1 => ("MovedRegisters$Plan", "kind", "[I", true)
  | 2 => ("MovedRegisters$Plan", "cost", "[I", true)
  | _ => ("MovedRegisters$Plan", "source", "[I", true)
def t_P : Nat → FieldType := fun k => match k with
  | 0 => .int
  | 1 => .array .int
  | 2 => .array .int
  | _ => .array .int
theorem n_P : ∀ a, a < 4 → ∀ b, b < 4 → a ≠ b → (F_P a).2.1 ≠ (F_P b).2.1 := by decide +kernel
theorem t_P_ok : ∀ k, k < 4 → parseFieldDescriptor (F_P k).2.2.1 = some (t_P k) := by decide +kernel
theorem fw_P : ∀ w ∈ u_ws "MovedRegisters$Plan" F_P 4, w ∈ mT := by
  intro w hw
  obtain ⟨k, hk, rfl⟩ := List.mem_map.mp hw
  have hk := List.mem_range.mp hk
  match k, hk with
  | 0, _ => exact (mT_1 (i := 51) rfl rfl)
  | 1, _ => exact (mT_1 (i := 53) rfl rfl)
  | 2, _ => exact (mT_1 (i := 55) rfl rfl)
  | 3, _ => exact (mT_1 (i := 57) rfl rfl)
  | j + 4, h => exact absurd h (by omega)
def F_B : u_T := fun k => match k with
  | 0 => ("MovedRegisters$Bank", "lengths", "[I", true)
  | _ => ("MovedRegisters$Bank", "values", "[J", true)
def t_B : Nat → FieldType := fun k => match k with
  | 0 => .array .int
  | _ => .array .long
theorem n_B : ∀ a, a < 2 → ∀ b, b < 2 → a ≠ b → (F_B a).2.1 ≠ (F_B b).2.1 := by decide +kernel
theorem t_B_ok : ∀ k, k < 2 → parseFieldDescriptor (F_B k).2.2.1 = some (t_B k) := by decide +kernel
theorem fw_B : ∀ w ∈ u_ws "MovedRegisters$Bank" F_B 2, w ∈ mT := by
  intro w hw
  obtain ⟨k, hk, rfl⟩ := List.mem_map.mp hw
  have hk := List.mem_range.mp hk
  match k, hk with
  | 0, _ => exact (mT_1 (i := 69) rfl rfl)
  | 1, _ => exact (mT_1 (i := 71) rfl rfl)
  | j + 2, h => exact absurd h (by omega)
def F_O : u_T := fun k => match k with
  | 0 => ("MovedRegisters$Order", "place", "[I", true)
  | 1 => ("MovedRegisters$Order", "placed", "[Z", true)
  | _ => ("MovedRegisters$Order", "filled", "I", false)
def t_O : Nat → FieldType := fun k => match k with
  | 0 => .array .int
  | 1 => .array .boolean
  | _ => .int
theorem n_O : ∀ a, a < 3 → ∀ b, b < 3 → a ≠ b → (F_O a).2.1 ≠ (F_O b).2.1 := by decide +kernel
theorem t_O_ok : ∀ k, k < 3 → parseFieldDescriptor (F_O k).2.2.1 = some (t_O k) := by decide +kernel
theorem fw_O : ∀ w ∈ u_ws "MovedRegisters$Order" F_O 3, w ∈ mT := by
  intro w hw
  obtain ⟨k, hk, rfl⟩ := List.mem_map.mp hw
  have hk := List.mem_range.mp hk
  match k, hk with
  | 0, _ => exact (mT_1 (i := 85) rfl rfl)
  | 1, _ => exact (mT_1 (i := 87) rfl rfl)
  | 2, _ => exact (mT_1 (i := 89) rfl rfl)
  | j + 3, h => exact absurd h (by omega)
def F_H : u_T := fun k => match k with
  | 0 => ("MovedRegisters$Paths", "least", "[[I", true)
  | _ => ("MovedRegisters$Paths", "longest", "[[I", true)
def t_H : Nat → FieldType := fun k => match k with
  | 0 => .array (.array .int)
  | _ => .array (.array .int)
theorem n_H : ∀ a, a < 2 → ∀ b, b < 2 → a ≠ b → (F_H a).2.1 ≠ (F_H b).2.1 := by decide +kernel
theorem t_H_ok : ∀ k, k < 2 → parseFieldDescriptor (F_H k).2.2.1 = some (t_H k) := by decide +kernel
theorem fw_H : ∀ w ∈ u_ws "MovedRegisters$Paths" F_H 2, w ∈ mT := by
  intro w hw
  obtain ⟨k, hk, rfl⟩ := List.mem_map.mp hw
  have hk := List.mem_range.mp hk
  match k, hk with
  | 0, _ => exact (mT_1 (i := 107) rfl rfl)
  | 1, _ => exact (mT_1 (i := 109) rfl rfl)
  | j + 2, h => exact absurd h (by omega)
def F_L : u_T := fun k => match k with
  | 0 => ("MovedRegisters$Limits", "labels", "[I", true)
  | _ => ("MovedRegisters$Limits", "most", "[[I", true)
def t_L : Nat → FieldType := fun k => match k with
  | 0 => .array .int
  | _ => .array (.array .int)
theorem n_L : ∀ a, a < 2 → ∀ b, b < 2 → a ≠ b → (F_L a).2.1 ≠ (F_L b).2.1 := by decide +kernel
theorem t_L_ok : ∀ k, k < 2 → parseFieldDescriptor (F_L k).2.2.1 = some (t_L k) := by decide +kernel
theorem fw_L : ∀ w ∈ u_ws "MovedRegisters$Limits" F_L 2, w ∈ mT := by
  intro w hw
  obtain ⟨k, hk, rfl⟩ := List.mem_map.mp hw
  have hk := List.mem_range.mp hk
  match k, hk with
  | 0, _ => exact (mT_1 (i := 122) rfl rfl)
  | 1, _ => exact (mT_1 (i := 124) rfl rfl)
  | j + 2, h => exact absurd h (by omega)
def F_V : u_T := fun k => match k with
  | _ => ("MovedRegisters$Mover", "left", "[I", true)
def t_V : Nat → FieldType := fun k => match k with
  | _ => .array .int
theorem n_V : ∀ a, a < 1 → ∀ b, b < 1 → a ≠ b → (F_V a).2.1 ≠ (F_V b).2.1 := by decide +kernel
theorem t_V_ok : ∀ k, k < 1 → parseFieldDescriptor (F_V k).2.2.1 = some (t_V k) := by decide +kernel
theorem fw_V : ∀ w ∈ u_ws "MovedRegisters$Mover" F_V 1, w ∈ mT := by
  intro w hw
  obtain ⟨k, hk, rfl⟩ := List.mem_map.mp hw
  have hk := List.mem_range.mp hk
  match k, hk with
  | 0, _ => exact (mT_1 (i := 134) rfl rfl)
  | j + 1, h => exact absurd h (by omega)
def F_C : u_T := fun k => match k with
  | 0 => ("MovedRegisters$Clock", "state", "LMovedRegisters$Bank;", true)
  | _ => ("MovedRegisters$Clock", "value", "[I", true)
def t_C : Nat → FieldType := fun k => match k with
  | 0 => .object "MovedRegisters$Bank"
  | _ => .array .int
theorem n_C : ∀ a, a < 2 → ∀ b, b < 2 → a ≠ b → (F_C a).2.1 ≠ (F_C b).2.1 := by decide +kernel
theorem t_C_ok : ∀ k, k < 2 → parseFieldDescriptor (F_C k).2.2.1 = some (t_C k) := by decide +kernel
theorem fw_C : ∀ w ∈ u_ws "MovedRegisters$Clock" F_C 2, w ∈ mT := by
  intro w hw
  obtain ⟨k, hk, rfl⟩ := List.mem_map.mp hw
  have hk := List.mem_range.mp hk
  match k, hk with
  | 0, _ => exact (mT_1 (i := 147) rfl rfl)
  | 1, _ => exact (mT_1 (i := 149) rfl rfl)
  | j + 2, h => exact absurd h (by omega)
def F_M : u_T := fun k => match k with
  | 0 => ("MovedRegistersModel", "thrown", "I", false)
  | 1 => ("MovedRegistersModel", "count", "I", false)
  | 2 => ("MovedRegistersModel", "kinds", "[I", true)
  | 3 => ("MovedRegistersModel", "delays", "[I", true)
  | 4 => ("MovedRegistersModel", "from", "[I", true)
  | 5 => ("MovedRegistersModel", "many", "[I", true)
  | 6 => ("MovedRegistersModel", "values", "[I", true)
  | 7 => ("MovedRegistersModel", "running", "[I", true)
  | 8 => ("MovedRegistersModel", "tried", "[I", true)
  | 9 => ("MovedRegistersModel", "triedMany", "[I", true)
  | 10 => ("MovedRegistersModel", "told", "[I", true)
  | 11 => ("MovedRegistersModel", "labels", "[I", true)
  | 12 => ("MovedRegistersModel", "left", "[I", true)
  | 13 => ("MovedRegistersModel", "costs", "[I", true)
  | _ => ("MovedRegistersModel", "out", "[I", true)
def t_M : Nat → FieldType := fun k => match k with
  | 0 => .int
  | 1 => .int
  | 2 => .array .int
  | 3 => .array .int
  | 4 => .array .int
  | 5 => .array .int
  | 6 => .array .int
  | 7 => .array .int
  | 8 => .array .int
  | 9 => .array .int
  | 10 => .array .int
  | 11 => .array .int
  | 12 => .array .int
  | 13 => .array .int
  | _ => .array .int
theorem n_M : ∀ a, a < 15 → ∀ b, b < 15 → a ≠ b → (F_M a).2.1 ≠ (F_M b).2.1 := by decide +kernel
theorem t_M_ok : ∀ k, k < 15 → parseFieldDescriptor (F_M k).2.2.1 = some (t_M k) := by decide +kernel
theorem fw_M : ∀ w ∈ u_ws "MovedRegistersModel" F_M 15, w ∈ mT := by
  intro w hw
  obtain ⟨k, hk, rfl⟩ := List.mem_map.mp hw
  have hk := List.mem_range.mp hk
  match k, hk with
  | 0, _ => exact (mT_3 (i := 221) rfl rfl)
  | 1, _ => exact (mT_3 (i := 223) rfl rfl)
  | 2, _ => exact (mT_3 (i := 225) rfl rfl)
  | 3, _ => exact (mT_3 (i := 227) rfl rfl)
  | 4, _ => exact (mT_3 (i := 229) rfl rfl)
  | 5, _ => exact (mT_3 (i := 231) rfl rfl)
  | 6, _ => exact (mT_3 (i := 233) rfl rfl)
  | 7, _ => exact (mT_3 (i := 235) rfl rfl)
  | 8, _ => exact (mT_3 (i := 237) rfl rfl)
  | 9, _ => exact (mT_3 (i := 239) rfl rfl)
  | 10, _ => exact (mT_4 (i := 1) rfl rfl)
  | 11, _ => exact (mT_4 (i := 3) rfl rfl)
  | 12, _ => exact (mT_4 (i := 5) rfl rfl)
  | 13, _ => exact (mT_4 (i := 7) rfl rfl)
  | 14, _ => exact (mT_4 (i := 9) rfl rfl)
  | j + 15, h => exact absurd h (by omega)
abbrev mCl : List vw_C := [("MovedRegisters", F_A, 9), ("MovedRegisters$Plan", F_P, 4), ("MovedRegisters$Bank", F_B, 2), ("MovedRegisters$Order", F_O, 3), ("MovedRegisters$Paths", F_H, 2), ("MovedRegisters$Limits", F_L, 2), ("MovedRegisters$Mover", F_V, 1), ("MovedRegisters$Clock", F_C, 2), ("MovedRegistersModel", F_M, 15)]
abbrev jA_init : mx_J := (⟨"MovedRegisters", "<init>", "()V"⟩, prog_1_method_1_code, 1, none)
theorem jA_init_ok : mx_ok mT jA_init 0 := ⟨(mT_1 (i := 24) rfl rfl), (mT_1 (i := 1) rfl rfl), by decide +kernel, by decide +kernel, by decide +kernel, by decide +kernel⟩
abbrev jA_gate : mx_J := (⟨"MovedRegisters", "gate", "(II)I"⟩, prog_1_method_2_code, 3, (some .int))
theorem jA_gate_ok : mx_ok mT jA_gate 2 := ⟨(mT_2 (i := 24) rfl rfl), (mT_1 (i := 1) rfl rfl), by decide +kernel, by decide +kernel, by decide +kernel, by decide +kernel⟩
theorem jA_gate_v : Cond.instanceMethod jA_gate.1 ∈ mT ∧ Cond.selects jA_gate.1.cls jA_gate.1 jA_gate.1 ∈ mT := ⟨(mT_2 (i := 22) rfl rfl), (mT_2 (i := 23) rfl rfl)⟩
abbrev jA_wire : mx_J := (⟨"MovedRegisters", "wire", "(IIII)V"⟩, prog_1_method_3_code, 6, none)
theorem jA_wire_ok : mx_ok mT jA_wire 4 := ⟨(mT_2 (i := 115) rfl rfl), (mT_1 (i := 1) rfl rfl), by decide +kernel, by decide +kernel, by decide +kernel, by decide +kernel⟩
theorem jA_wire_v : Cond.instanceMethod jA_wire.1 ∈ mT ∧ Cond.selects jA_wire.1.cls jA_wire.1 jA_wire.1 ∈ mT := ⟨(mT_2 (i := 113) rfl rfl), (mT_2 (i := 114) rfl rfl)⟩
abbrev jA_hold : mx_J := (⟨"MovedRegisters", "hold", "(IIII)V"⟩, prog_1_method_4_code, 6, none)
theorem jA_hold_ok : mx_ok mT jA_hold 4 := ⟨(mT_2 (i := 166) rfl rfl), (mT_1 (i := 1) rfl rfl), by decide +kernel, by decide +kernel, by decide +kernel, by decide +kernel⟩
theorem jA_hold_v : Cond.instanceMethod jA_hold.1 ∈ mT ∧ Cond.selects jA_hold.1.cls jA_hold.1 jA_hold.1 ∈ mT := ⟨(mT_2 (i := 164) rfl rfl), (mT_2 (i := 165) rfl rfl)⟩
abbrev jA_held : mx_J := (⟨"MovedRegisters", "held", "(III)I"⟩, prog_1_method_5_code, 4, (some .int))
theorem jA_held_ok : mx_ok mT jA_held 3 := ⟨(mT_2 (i := 186) rfl rfl), (mT_1 (i := 1) rfl rfl), by decide +kernel, by decide +kernel, by decide +kernel, by decide +kernel⟩
theorem jA_held_v : Cond.instanceMethod jA_held.1 ∈ mT ∧ Cond.selects jA_held.1.cls jA_held.1 jA_held.1 ∈ mT := ⟨(mT_2 (i := 184) rfl rfl), (mT_2 (i := 185) rfl rfl)⟩
abbrev jA_registers : mx_J := (⟨"MovedRegisters", "registers", "(II)I"⟩, prog_1_method_6_code, 3, (some .int))
theorem jA_registers_ok : mx_ok mT jA_registers 2 := ⟨(mT_2 (i := 197) rfl rfl), (mT_1 (i := 1) rfl rfl), by decide +kernel, by decide +kernel, by decide +kernel, by decide +kernel⟩
theorem jA_registers_v : Cond.instanceMethod jA_registers.1 ∈ mT ∧ Cond.selects jA_registers.1.cls jA_registers.1 jA_registers.1 ∈ mT := ⟨(mT_2 (i := 195) rfl rfl), (mT_2 (i := 196) rfl rfl)⟩
abbrev jA_gates : mx_J := (⟨"MovedRegisters", "gates", "()I"⟩, prog_1_method_7_code, 1, (some .int))
theorem jA_gates_ok : mx_ok mT jA_gates 0 := ⟨(mT_1 (i := 183) rfl rfl), (mT_1 (i := 1) rfl rfl), by decide +kernel, by decide +kernel, by decide +kernel, by decide +kernel⟩
theorem jA_gates_v : Cond.instanceMethod jA_gates.1 ∈ mT ∧ Cond.selects jA_gates.1.cls jA_gates.1 jA_gates.1 ∈ mT := ⟨(mT_1 (i := 181) rfl rfl), (mT_1 (i := 182) rfl rfl)⟩
abbrev jA_sound : mx_J := (⟨"MovedRegisters", "sound", "()Z"⟩, prog_1_method_8_code, 1, (some .boolean))
theorem jA_sound_ok : mx_ok mT jA_sound 0 := ⟨(mT_1 (i := 187) rfl rfl), (mT_1 (i := 1) rfl rfl), by decide +kernel, by decide +kernel, by decide +kernel, by decide +kernel⟩
theorem jA_sound_v : Cond.instanceMethod jA_sound.1 ∈ mT ∧ Cond.selects jA_sound.1.cls jA_sound.1 jA_sound.1 ∈ mT := ⟨(mT_1 (i := 185) rfl rfl), (mT_1 (i := 186) rfl rfl)⟩
abbrev jA_period : mx_J := (⟨"MovedRegisters", "period", "()I"⟩, prog_1_method_9_code, 1, (some .int))
theorem jA_period_ok : mx_ok mT jA_period 0 := ⟨(mT_2 (i := 205) rfl rfl), (mT_1 (i := 1) rfl rfl), by decide +kernel, by decide +kernel, by decide +kernel, by decide +kernel⟩
theorem jA_period_v : Cond.instanceMethod jA_period.1 ∈ mT ∧ Cond.selects jA_period.1.cls jA_period.1 jA_period.1 ∈ mT := ⟨(mT_2 (i := 203) rfl rfl), (mT_2 (i := 204) rfl rfl)⟩
abbrev jA_weight : mx_J := (⟨"MovedRegisters", "weight", "(II)I"⟩, prog_1_method_10_code, 3, (some .int))
theorem jA_weight_ok : mx_ok mT jA_weight 2 := ⟨(mT_3 (i := 18) rfl rfl), (mT_1 (i := 1) rfl rfl), by decide +kernel, by decide +kernel, by decide +kernel, by decide +kernel⟩
theorem jA_weight_v : Cond.instanceMethod jA_weight.1 ∈ mT ∧ Cond.selects jA_weight.1.cls jA_weight.1 jA_weight.1 ∈ mT := ⟨(mT_3 (i := 16) rfl rfl), (mT_3 (i := 17) rfl rfl)⟩
abbrev jA_delay : mx_J := (⟨"MovedRegisters", "delay", "(II)I"⟩, prog_1_method_11_code, 3, (some .int))
theorem jA_delay_ok : mx_ok mT jA_delay 2 := ⟨(mT_3 (i := 30) rfl rfl), (mT_1 (i := 1) rfl rfl), by decide +kernel, by decide +kernel, by decide +kernel, by decide +kernel⟩
theorem jA_delay_v : Cond.instanceMethod jA_delay.1 ∈ mT ∧ Cond.selects jA_delay.1.cls jA_delay.1 jA_delay.1 ∈ mT := ⟨(mT_3 (i := 28) rfl rfl), (mT_3 (i := 29) rfl rfl)⟩
abbrev jA_least : mx_J := (⟨"MovedRegisters", "least", "()I"⟩, prog_1_method_12_code, 5, (some .int))
theorem jA_least_ok : mx_ok mT jA_least 0 := ⟨(mT_3 (i := 37) rfl rfl), (mT_1 (i := 1) rfl rfl), by decide +kernel, by decide +kernel, by decide +kernel, by decide +kernel⟩
theorem jA_least_v : Cond.instanceMethod jA_least.1 ∈ mT ∧ Cond.selects jA_least.1.cls jA_least.1 jA_least.1 ∈ mT := ⟨(mT_3 (i := 35) rfl rfl), (mT_3 (i := 36) rfl rfl)⟩
abbrev jA_shared : mx_J := (⟨"MovedRegisters", "shared", "()I"⟩, prog_1_method_13_code, 3, (some .int))
theorem jA_shared_ok : mx_ok mT jA_shared 0 := ⟨(mT_3 (i := 78) rfl rfl), (mT_1 (i := 1) rfl rfl), by decide +kernel, by decide +kernel, by decide +kernel, by decide +kernel⟩
theorem jA_shared_v : Cond.instanceMethod jA_shared.1 ∈ mT ∧ Cond.selects jA_shared.1.cls jA_shared.1 jA_shared.1 ∈ mT := ⟨(mT_3 (i := 76) rfl rfl), (mT_3 (i := 77) rfl rfl)⟩
abbrev jA_retime : mx_J := (⟨"MovedRegisters", "retime", "(I)I"⟩, prog_1_method_14_code, 2, (some .int))
theorem jA_retime_ok : mx_ok mT jA_retime 1 := ⟨(mT_3 (i := 90) rfl rfl), (mT_1 (i := 1) rfl rfl), by decide +kernel, by decide +kernel, by decide +kernel, by decide +kernel⟩
theorem jA_retime_v : Cond.instanceMethod jA_retime.1 ∈ mT ∧ Cond.selects jA_retime.1.cls jA_retime.1 jA_retime.1 ∈ mT := ⟨(mT_3 (i := 88) rfl rfl), (mT_3 (i := 89) rfl rfl)⟩
abbrev jA_label : mx_J := (⟨"MovedRegisters", "label", "(I)I"⟩, prog_1_method_15_code, 2, (some .int))
theorem jA_label_ok : mx_ok mT jA_label 1 := ⟨(mT_3 (i := 165) rfl rfl), (mT_1 (i := 1) rfl rfl), by decide +kernel, by decide +kernel, by decide +kernel, by decide +kernel⟩
theorem jA_label_v : Cond.instanceMethod jA_label.1 ∈ mT ∧ Cond.selects jA_label.1.cls jA_label.1 jA_label.1 ∈ mT := ⟨(mT_3 (i := 163) rfl rfl), (mT_3 (i := 164) rfl rfl)⟩
abbrev jA_tick : mx_J := (⟨"MovedRegisters", "tick", "(III)I"⟩, prog_1_method_16_code, 5, (some .int))
theorem jA_tick_ok : mx_ok mT jA_tick 3 := ⟨(mT_3 (i := 172) rfl rfl), (mT_1 (i := 1) rfl rfl), by decide +kernel, by decide +kernel, by decide +kernel, by decide +kernel⟩
theorem jA_tick_v : Cond.instanceMethod jA_tick.1 ∈ mT ∧ Cond.selects jA_tick.1.cls jA_tick.1 jA_tick.1 ∈ mT := ⟨(mT_3 (i := 170) rfl rfl), (mT_3 (i := 171) rfl rfl)⟩
abbrev jA_restart : mx_J := (⟨"MovedRegisters", "restart", "()V"⟩, prog_1_method_17_code, 1, none)
theorem jA_restart_ok : mx_ok mT jA_restart 0 := ⟨(mT_2 (i := 4) rfl rfl), (mT_1 (i := 1) rfl rfl), by decide +kernel, by decide +kernel, by decide +kernel, by decide +kernel⟩
theorem jA_restart_v : Cond.instanceMethod jA_restart.1 ∈ mT ∧ Cond.selects jA_restart.1.cls jA_restart.1 jA_restart.1 ∈ mT := ⟨(mT_2 (i := 2) rfl rfl), (mT_2 (i := 3) rfl rfl)⟩
abbrev jA_isValue : mx_J := (⟨"MovedRegisters", "isValue", "(I)Z"⟩, prog_1_method_18_code, 1, (some .boolean))
theorem jA_isValue_ok : mx_ok mT jA_isValue 1 := ⟨(mT_2 (i := 178) rfl rfl), (mT_1 (i := 1) rfl rfl), by decide +kernel, by decide +kernel, by decide +kernel, by decide +kernel⟩
theorem jA_isValue_v : Cond.static jA_isValue.1 ∈ mT := (mT_2 (i := 177) rfl rfl)
abbrev jA_needGate : mx_J := (⟨"MovedRegisters", "needGate", "(I)V"⟩, prog_1_method_19_code, 2, none)
theorem jA_needGate_ok : mx_ok mT jA_needGate 1 := ⟨(mT_3 (i := 22) rfl rfl), (mT_1 (i := 1) rfl rfl), by decide +kernel, by decide +kernel, by decide +kernel, by decide +kernel⟩
theorem jA_needGate_v : Cond.instanceMethod jA_needGate.1 ∈ mT ∧ Cond.selects jA_needGate.1.cls jA_needGate.1 jA_needGate.1 ∈ mT := ⟨(mT_3 (i := 21) rfl rfl), (mT_s (i := 12) (n := 9) rfl)⟩
abbrev jA_needSound : mx_J := (⟨"MovedRegisters", "needSound", "()V"⟩, prog_1_method_20_code, 1, none)
theorem jA_needSound_ok : mx_ok mT jA_needSound 0 := ⟨(mT_2 (i := 209) rfl rfl), (mT_1 (i := 1) rfl rfl), by decide +kernel, by decide +kernel, by decide +kernel, by decide +kernel⟩
theorem jA_needSound_v : Cond.instanceMethod jA_needSound.1 ∈ mT ∧ Cond.selects jA_needSound.1.cls jA_needSound.1 jA_needSound.1 ∈ mT := ⟨(mT_2 (i := 208) rfl rfl), (mT_s (i := 8) (n := 9) rfl)⟩
abbrev jA_isSound : mx_J := (⟨"MovedRegisters", "isSound", "()Z"⟩, prog_1_method_21_code, 1, (some .boolean))
theorem jA_isSound_ok : mx_ok mT jA_isSound 0 := ⟨(mT_1 (i := 191) rfl rfl), (mT_1 (i := 1) rfl rfl), by decide +kernel, by decide +kernel, by decide +kernel, by decide +kernel⟩
theorem jA_isSound_v : Cond.instanceMethod jA_isSound.1 ∈ mT ∧ Cond.selects jA_isSound.1.cls jA_isSound.1 jA_isSound.1 ∈ mT := ⟨(mT_1 (i := 190) rfl rfl), (mT_s (i := 0) (n := 9) rfl)⟩
abbrev jA_wireTo : mx_J := (⟨"MovedRegisters", "wireTo", "(II)I"⟩, prog_1_method_22_code, 4, (some .int))
theorem jA_wireTo_ok : mx_ok mT jA_wireTo 2 := ⟨(mT_2 (i := 174) rfl rfl), (mT_1 (i := 1) rfl rfl), by decide +kernel, by decide +kernel, by decide +kernel, by decide +kernel⟩
theorem jA_wireTo_v : Cond.instanceMethod jA_wireTo.1 ∈ mT ∧ Cond.selects jA_wireTo.1.cls jA_wireTo.1 jA_wireTo.1 ∈ mT := ⟨(mT_2 (i := 173) rfl rfl), (mT_s (i := 7) (n := 9) rfl)⟩
abbrev jA_registerWire : mx_J := (⟨"MovedRegisters", "registerWire", "(III)I"⟩, prog_1_method_23_code, 5, (some .int))
theorem jA_registerWire_ok : mx_ok mT jA_registerWire 3 := ⟨(mT_2 (i := 170) rfl rfl), (mT_1 (i := 1) rfl rfl), by decide +kernel, by decide +kernel, by decide +kernel, by decide +kernel⟩
theorem jA_registerWire_v : Cond.instanceMethod jA_registerWire.1 ∈ mT ∧ Cond.selects jA_registerWire.1.cls jA_registerWire.1 jA_registerWire.1 ∈ mT := ⟨(mT_2 (i := 169) rfl rfl), (mT_s (i := 6) (n := 9) rfl)⟩
abbrev jA_mostFrom : mx_J := (⟨"MovedRegisters", "mostFrom", "(I)I"⟩, prog_1_method_24_code, 4, (some .int))
theorem jA_mostFrom_ok : mx_ok mT jA_mostFrom 1 := ⟨(mT_3 (i := 82) rfl rfl), (mT_1 (i := 1) rfl rfl), by decide +kernel, by decide +kernel, by decide +kernel, by decide +kernel⟩
theorem jA_mostFrom_v : Cond.instanceMethod jA_mostFrom.1 ∈ mT ∧ Cond.selects jA_mostFrom.1.cls jA_mostFrom.1 jA_mostFrom.1 ∈ mT := ⟨(mT_3 (i := 81) rfl rfl), (mT_s (i := 18) (n := 9) rfl)⟩
abbrev jA_moveUpTo : mx_J := (⟨"MovedRegisters", "moveUpTo", "(I)Z"⟩, prog_1_method_25_code, 2, (some .boolean))
theorem jA_moveUpTo_ok : mx_ok mT jA_moveUpTo 1 := ⟨(mT_3 (i := 94) rfl rfl), (mT_1 (i := 1) rfl rfl), by decide +kernel, by decide +kernel, by decide +kernel, by decide +kernel⟩
theorem jA_moveUpTo_v : Cond.instanceMethod jA_moveUpTo.1 ∈ mT ∧ Cond.selects jA_moveUpTo.1.cls jA_moveUpTo.1 jA_moveUpTo.1 ∈ mT := ⟨(mT_3 (i := 93) rfl rfl), (mT_s (i := 19) (n := 9) rfl)⟩
abbrev jM_init : mx_J := (⟨"MovedRegistersModel", "<init>", "()V"⟩, prog_11_method_1_code, 1, none)
theorem jM_init_ok : mx_ok mT jM_init 0 := ⟨(mT_3 (i := 204) rfl rfl), (mT_1 (i := 9) rfl rfl), by decide +kernel, by decide +kernel, by decide +kernel, by decide +kernel⟩
abbrev jM_thrown : mx_J := (⟨"MovedRegistersModel", "thrown", "()I"⟩, prog_11_method_2_code, 1, (some .int))
theorem jM_thrown_ok : mx_ok mT jM_thrown 0 := ⟨(mT_4 (i := 15) rfl rfl), (mT_1 (i := 9) rfl rfl), by decide +kernel, by decide +kernel, by decide +kernel, by decide +kernel⟩
theorem jM_thrown_v : Cond.instanceMethod jM_thrown.1 ∈ mT ∧ Cond.selects jM_thrown.1.cls jM_thrown.1 jM_thrown.1 ∈ mT := ⟨(mT_4 (i := 13) rfl rfl), (mT_4 (i := 14) rfl rfl)⟩
abbrev jM_isGate : mx_J := (⟨"MovedRegistersModel", "isGate", "(I)Z"⟩, prog_11_method_3_code, 2, (some .boolean))
theorem jM_isGate_ok : mx_ok mT jM_isGate 1 := ⟨(mT_4 (i := 31) rfl rfl), (mT_1 (i := 9) rfl rfl), by decide +kernel, by decide +kernel, by decide +kernel, by decide +kernel⟩
theorem jM_isGate_v : Cond.instanceMethod jM_isGate.1 ∈ mT ∧ Cond.selects jM_isGate.1.cls jM_isGate.1 jM_isGate.1 ∈ mT := ⟨(mT_4 (i := 30) rfl rfl), (mT_s (i := 28) (n := 15) rfl)⟩
abbrev jM_isOuter : mx_J := (⟨"MovedRegistersModel", "isOuter", "(I)Z"⟩, prog_11_method_4_code, 1, (some .boolean))
theorem jM_isOuter_ok : mx_ok mT jM_isOuter 1 := ⟨(mT_4 (i := 34) rfl rfl), (mT_1 (i := 9) rfl rfl), by decide +kernel, by decide +kernel, by decide +kernel, by decide +kernel⟩
theorem jM_isOuter_v : Cond.static jM_isOuter.1 ∈ mT := (mT_4 (i := 33) rfl rfl)
abbrev jM_pins : mx_J := (⟨"MovedRegistersModel", "pins", "(I)I"⟩, prog_11_method_5_code, 2, (some .int))
theorem jM_pins_ok : mx_ok mT jM_pins 1 := ⟨(mT_4 (i := 42) rfl rfl), (mT_1 (i := 9) rfl rfl), by decide +kernel, by decide +kernel, by decide +kernel, by decide +kernel⟩
theorem jM_pins_v : Cond.instanceMethod jM_pins.1 ∈ mT ∧ Cond.selects jM_pins.1.cls jM_pins.1 jM_pins.1 ∈ mT := ⟨(mT_4 (i := 41) rfl rfl), (mT_s (i := 30) (n := 15) rfl)⟩
abbrev jM_place : mx_J := (⟨"MovedRegistersModel", "place", "(II)I"⟩, prog_11_method_6_code, 3, (some .int))
theorem jM_place_ok : mx_ok mT jM_place 2 := ⟨(mT_4 (i := 38) rfl rfl), (mT_1 (i := 9) rfl rfl), by decide +kernel, by decide +kernel, by decide +kernel, by decide +kernel⟩
theorem jM_place_v : Cond.instanceMethod jM_place.1 ∈ mT ∧ Cond.selects jM_place.1.cls jM_place.1 jM_place.1 ∈ mT := ⟨(mT_4 (i := 37) rfl rfl), (mT_s (i := 29) (n := 15) rfl)⟩
abbrev jM_isWire : mx_J := (⟨"MovedRegistersModel", "isWire", "(I)Z"⟩, prog_11_method_7_code, 2, (some .boolean))
theorem jM_isWire_ok : mx_ok mT jM_isWire 1 := ⟨(mT_4 (i := 54) rfl rfl), (mT_1 (i := 9) rfl rfl), by decide +kernel, by decide +kernel, by decide +kernel, by decide +kernel⟩
theorem jM_isWire_v : Cond.instanceMethod jM_isWire.1 ∈ mT ∧ Cond.selects jM_isWire.1.cls jM_isWire.1 jM_isWire.1 ∈ mT := ⟨(mT_4 (i := 53) rfl rfl), (mT_s (i := 32) (n := 15) rfl)⟩
abbrev jM_sinkOf : mx_J := (⟨"MovedRegistersModel", "sinkOf", "(I)I"⟩, prog_11_method_8_code, 1, (some .int))
theorem jM_sinkOf_ok : mx_ok mT jM_sinkOf 1 := ⟨(mT_4 (i := 90) rfl rfl), (mT_1 (i := 9) rfl rfl), by decide +kernel, by decide +kernel, by decide +kernel, by decide +kernel⟩
theorem jM_sinkOf_v : Cond.static jM_sinkOf.1 ∈ mT := (mT_4 (i := 89) rfl rfl)
abbrev jM_begin : mx_J := (⟨"MovedRegistersModel", "begin", "()V"⟩, prog_11_method_9_code, 2, none)
theorem jM_begin_ok : mx_ok mT jM_begin 0 := ⟨(mT_4 (i := 23) rfl rfl), (mT_1 (i := 9) rfl rfl), by decide +kernel, by decide +kernel, by decide +kernel, by decide +kernel⟩
theorem jM_begin_v : Cond.instanceMethod jM_begin.1 ∈ mT ∧ Cond.selects jM_begin.1.cls jM_begin.1 jM_begin.1 ∈ mT := ⟨(mT_4 (i := 22) rfl rfl), (mT_s (i := 27) (n := 15) rfl)⟩
abbrev jM_gate : mx_J := (⟨"MovedRegistersModel", "gate", "(II)I"⟩, prog_11_method_10_code, 3, (some .int))
theorem jM_gate_ok : mx_ok mT jM_gate 2 := ⟨(mT_4 (i := 19) rfl rfl), (mT_1 (i := 9) rfl rfl), by decide +kernel, by decide +kernel, by decide +kernel, by decide +kernel⟩
theorem jM_gate_v : Cond.instanceMethod jM_gate.1 ∈ mT ∧ Cond.selects jM_gate.1.cls jM_gate.1 jM_gate.1 ∈ mT := ⟨(mT_4 (i := 17) rfl rfl), (mT_4 (i := 18) rfl rfl)⟩
abbrev jM_wire : mx_J := (⟨"MovedRegistersModel", "wire", "(IIII)V"⟩, prog_11_method_11_code, 8, none)
theorem jM_wire_ok : mx_ok mT jM_wire 4 := ⟨(mT_4 (i := 27) rfl rfl), (mT_1 (i := 9) rfl rfl), by decide +kernel, by decide +kernel, by decide +kernel, by decide +kernel⟩
theorem jM_wire_v : Cond.instanceMethod jM_wire.1 ∈ mT ∧ Cond.selects jM_wire.1.cls jM_wire.1 jM_wire.1 ∈ mT := ⟨(mT_4 (i := 25) rfl rfl), (mT_4 (i := 26) rfl rfl)⟩
abbrev jM_isRegister : mx_J := (⟨"MovedRegistersModel", "isRegister", "(II)Z"⟩, prog_11_method_12_code, 3, (some .boolean))
theorem jM_isRegister_ok : mx_ok mT jM_isRegister 2 := ⟨(mT_4 (i := 50) rfl rfl), (mT_1 (i := 9) rfl rfl), by decide +kernel, by decide +kernel, by decide +kernel, by decide +kernel⟩
theorem jM_isRegister_v : Cond.instanceMethod jM_isRegister.1 ∈ mT ∧ Cond.selects jM_isRegister.1.cls jM_isRegister.1 jM_isRegister.1 ∈ mT := ⟨(mT_4 (i := 49) rfl rfl), (mT_s (i := 31) (n := 15) rfl)⟩
abbrev jM_hold : mx_J := (⟨"MovedRegistersModel", "hold", "(IIII)V"⟩, prog_11_method_13_code, 6, none)
theorem jM_hold_ok : mx_ok mT jM_hold 4 := ⟨(mT_4 (i := 46) rfl rfl), (mT_1 (i := 9) rfl rfl), by decide +kernel, by decide +kernel, by decide +kernel, by decide +kernel⟩
theorem jM_hold_v : Cond.instanceMethod jM_hold.1 ∈ mT ∧ Cond.selects jM_hold.1.cls jM_hold.1 jM_hold.1 ∈ mT := ⟨(mT_4 (i := 44) rfl rfl), (mT_4 (i := 45) rfl rfl)⟩
abbrev jM_held : mx_J := (⟨"MovedRegistersModel", "held", "(III)I"⟩, prog_11_method_14_code, 5, (some .int))
theorem jM_held_ok : mx_ok mT jM_held 3 := ⟨(mT_4 (i := 58) rfl rfl), (mT_1 (i := 9) rfl rfl), by decide +kernel, by decide +kernel, by decide +kernel, by decide +kernel⟩
theorem jM_held_v : Cond.instanceMethod jM_held.1 ∈ mT ∧ Cond.selects jM_held.1.cls jM_held.1 jM_held.1 ∈ mT := ⟨(mT_4 (i := 56) rfl rfl), (mT_4 (i := 57) rfl rfl)⟩
abbrev jM_registers : mx_J := (⟨"MovedRegistersModel", "registers", "(II)I"⟩, prog_11_method_15_code, 4, (some .int))
theorem jM_registers_ok : mx_ok mT jM_registers 2 := ⟨(mT_4 (i := 62) rfl rfl), (mT_1 (i := 9) rfl rfl), by decide +kernel, by decide +kernel, by decide +kernel, by decide +kernel⟩
theorem jM_registers_v : Cond.instanceMethod jM_registers.1 ∈ mT ∧ Cond.selects jM_registers.1.cls jM_registers.1 jM_registers.1 ∈ mT := ⟨(mT_4 (i := 60) rfl rfl), (mT_4 (i := 61) rfl rfl)⟩
abbrev jM_gates : mx_J := (⟨"MovedRegistersModel", "gates", "()I"⟩, prog_11_method_16_code, 1, (some .int))
theorem jM_gates_ok : mx_ok mT jM_gates 0 := ⟨(mT_4 (i := 66) rfl rfl), (mT_1 (i := 9) rfl rfl), by decide +kernel, by decide +kernel, by decide +kernel, by decide +kernel⟩
theorem jM_gates_v : Cond.instanceMethod jM_gates.1 ∈ mT ∧ Cond.selects jM_gates.1.cls jM_gates.1 jM_gates.1 ∈ mT := ⟨(mT_4 (i := 64) rfl rfl), (mT_4 (i := 65) rfl rfl)⟩
abbrev jM_measure : mx_J := (⟨"MovedRegistersModel", "measure", "()V"⟩, prog_11_method_17_code, 6, none)
theorem jM_measure_ok : mx_ok mT jM_measure 0 := ⟨(mT_4 (i := 86) rfl rfl), (mT_1 (i := 9) rfl rfl), by decide +kernel, by decide +kernel, by decide +kernel, by decide +kernel⟩
theorem jM_measure_v : Cond.instanceMethod jM_measure.1 ∈ mT ∧ Cond.selects jM_measure.1.cls jM_measure.1 jM_measure.1 ∈ mT := ⟨(mT_4 (i := 85) rfl rfl), (mT_s (i := 35) (n := 15) rfl)⟩
abbrev jM_weightOf : mx_J := (⟨"MovedRegistersModel", "weightOf", "(II)I"⟩, prog_11_method_18_code, 4, (some .int))
theorem jM_weightOf_ok : mx_ok mT jM_weightOf 2 := ⟨(mT_4 (i := 94) rfl rfl), (mT_1 (i := 9) rfl rfl), by decide +kernel, by decide +kernel, by decide +kernel, by decide +kernel⟩
theorem jM_weightOf_v : Cond.instanceMethod jM_weightOf.1 ∈ mT ∧ Cond.selects jM_weightOf.1.cls jM_weightOf.1 jM_weightOf.1 ∈ mT := ⟨(mT_4 (i := 93) rfl rfl), (mT_s (i := 36) (n := 15) rfl)⟩
abbrev jM_delayOf : mx_J := (⟨"MovedRegistersModel", "delayOf", "(II)I"⟩, prog_11_method_19_code, 3, (some .int))
theorem jM_delayOf_ok : mx_ok mT jM_delayOf 2 := ⟨(mT_4 (i := 98) rfl rfl), (mT_1 (i := 9) rfl rfl), by decide +kernel, by decide +kernel, by decide +kernel, by decide +kernel⟩
theorem jM_delayOf_v : Cond.instanceMethod jM_delayOf.1 ∈ mT ∧ Cond.selects jM_delayOf.1.cls jM_delayOf.1 jM_delayOf.1 ∈ mT := ⟨(mT_4 (i := 97) rfl rfl), (mT_s (i := 37) (n := 15) rfl)⟩
abbrev jM_looped : mx_J := (⟨"MovedRegistersModel", "looped", "()Z"⟩, prog_11_method_20_code, 6, (some .boolean))
theorem jM_looped_ok : mx_ok mT jM_looped 0 := ⟨(mT_4 (i := 78) rfl rfl), (mT_1 (i := 9) rfl rfl), by decide +kernel, by decide +kernel, by decide +kernel, by decide +kernel⟩
theorem jM_looped_v : Cond.instanceMethod jM_looped.1 ∈ mT ∧ Cond.selects jM_looped.1.cls jM_looped.1 jM_looped.1 ∈ mT := ⟨(mT_4 (i := 77) rfl rfl), (mT_s (i := 34) (n := 15) rfl)⟩
abbrev jM_isSound : mx_J := (⟨"MovedRegistersModel", "isSound", "()Z"⟩, prog_11_method_21_code, 5, (some .boolean))
theorem jM_isSound_ok : mx_ok mT jM_isSound 0 := ⟨(mT_4 (i := 74) rfl rfl), (mT_1 (i := 9) rfl rfl), by decide +kernel, by decide +kernel, by decide +kernel, by decide +kernel⟩
theorem jM_isSound_v : Cond.instanceMethod jM_isSound.1 ∈ mT ∧ Cond.selects jM_isSound.1.cls jM_isSound.1 jM_isSound.1 ∈ mT := ⟨(mT_4 (i := 73) rfl rfl), (mT_s (i := 33) (n := 15) rfl)⟩
abbrev jM_sound : mx_J := (⟨"MovedRegistersModel", "sound", "()Z"⟩, prog_11_method_22_code, 1, (some .boolean))
theorem jM_sound_ok : mx_ok mT jM_sound 0 := ⟨(mT_4 (i := 70) rfl rfl), (mT_1 (i := 9) rfl rfl), by decide +kernel, by decide +kernel, by decide +kernel, by decide +kernel⟩
theorem jM_sound_v : Cond.instanceMethod jM_sound.1 ∈ mT ∧ Cond.selects jM_sound.1.cls jM_sound.1 jM_sound.1 ∈ mT := ⟨(mT_4 (i := 68) rfl rfl), (mT_4 (i := 69) rfl rfl)⟩
abbrev jM_period : mx_J := (⟨"MovedRegistersModel", "period", "()I"⟩, prog_11_method_23_code, 4, (some .int))
theorem jM_period_ok : mx_ok mT jM_period 0 := ⟨(mT_4 (i := 82) rfl rfl), (mT_1 (i := 9) rfl rfl), by decide +kernel, by decide +kernel, by decide +kernel, by decide +kernel⟩
theorem jM_period_v : Cond.instanceMethod jM_period.1 ∈ mT ∧ Cond.selects jM_period.1.cls jM_period.1 jM_period.1 ∈ mT := ⟨(mT_4 (i := 80) rfl rfl), (mT_4 (i := 81) rfl rfl)⟩
abbrev jM_weight : mx_J := (⟨"MovedRegistersModel", "weight", "(II)I"⟩, prog_11_method_24_code, 3, (some .int))
theorem jM_weight_ok : mx_ok mT jM_weight 2 := ⟨(mT_4 (i := 102) rfl rfl), (mT_1 (i := 9) rfl rfl), by decide +kernel, by decide +kernel, by decide +kernel, by decide +kernel⟩
theorem jM_weight_v : Cond.instanceMethod jM_weight.1 ∈ mT ∧ Cond.selects jM_weight.1.cls jM_weight.1 jM_weight.1 ∈ mT := ⟨(mT_4 (i := 100) rfl rfl), (mT_4 (i := 101) rfl rfl)⟩
abbrev jM_delay : mx_J := (⟨"MovedRegistersModel", "delay", "(II)I"⟩, prog_11_method_25_code, 3, (some .int))
theorem jM_delay_ok : mx_ok mT jM_delay 2 := ⟨(mT_4 (i := 106) rfl rfl), (mT_1 (i := 9) rfl rfl), by decide +kernel, by decide +kernel, by decide +kernel, by decide +kernel⟩
theorem jM_delay_v : Cond.instanceMethod jM_delay.1 ∈ mT ∧ Cond.selects jM_delay.1.cls jM_delay.1 jM_delay.1 ∈ mT := ⟨(mT_4 (i := 104) rfl rfl), (mT_4 (i := 105) rfl rfl)⟩
abbrev jM_labelOf : mx_J := (⟨"MovedRegistersModel", "labelOf", "(I)I"⟩, prog_11_method_26_code, 2, (some .int))
theorem jM_labelOf_ok : mx_ok mT jM_labelOf 1 := ⟨(mT_4 (i := 122) rfl rfl), (mT_1 (i := 9) rfl rfl), by decide +kernel, by decide +kernel, by decide +kernel, by decide +kernel⟩
theorem jM_labelOf_v : Cond.instanceMethod jM_labelOf.1 ∈ mT ∧ Cond.selects jM_labelOf.1.cls jM_labelOf.1 jM_labelOf.1 ∈ mT := ⟨(mT_4 (i := 121) rfl rfl), (mT_s (i := 40) (n := 15) rfl)⟩
abbrev jM_lower : mx_J := (⟨"MovedRegistersModel", "lower", "(II)Z"⟩, prog_11_method_27_code, 3, (some .boolean))
theorem jM_lower_ok : mx_ok mT jM_lower 2 := ⟨(mT_4 (i := 126) rfl rfl), (mT_1 (i := 9) rfl rfl), by decide +kernel, by decide +kernel, by decide +kernel, by decide +kernel⟩
theorem jM_lower_v : Cond.instanceMethod jM_lower.1 ∈ mT ∧ Cond.selects jM_lower.1.cls jM_lower.1 jM_lower.1 ∈ mT := ⟨(mT_4 (i := 125) rfl rfl), (mT_s (i := 41) (n := 15) rfl)⟩
abbrev jM_lowerAll : mx_J := (⟨"MovedRegistersModel", "lowerAll", "(I)Z"⟩, prog_11_method_28_code, 6, (some .boolean))
theorem jM_lowerAll_ok : mx_ok mT jM_lowerAll 1 := ⟨(mT_4 (i := 118) rfl rfl), (mT_1 (i := 9) rfl rfl), by decide +kernel, by decide +kernel, by decide +kernel, by decide +kernel⟩
theorem jM_lowerAll_v : Cond.instanceMethod jM_lowerAll.1 ∈ mT ∧ Cond.selects jM_lowerAll.1.cls jM_lowerAll.1 jM_lowerAll.1 ∈ mT := ⟨(mT_4 (i := 117) rfl rfl), (mT_s (i := 39) (n := 15) rfl)⟩
abbrev jM_find : mx_J := (⟨"MovedRegistersModel", "find", "(II)Z"⟩, prog_11_method_29_code, 7, (some .boolean))
theorem jM_find_ok : mx_ok mT jM_find 2 := ⟨(mT_4 (i := 114) rfl rfl), (mT_1 (i := 9) rfl rfl), by decide +kernel, by decide +kernel, by decide +kernel, by decide +kernel⟩
theorem jM_find_v : Cond.instanceMethod jM_find.1 ∈ mT ∧ Cond.selects jM_find.1.cls jM_find.1 jM_find.1 ∈ mT := ⟨(mT_4 (i := 113) rfl rfl), (mT_s (i := 38) (n := 15) rfl)⟩
abbrev jM_least : mx_J := (⟨"MovedRegistersModel", "least", "()I"⟩, prog_11_method_30_code, 4, (some .int))
theorem jM_least_ok : mx_ok mT jM_least 0 := ⟨(mT_4 (i := 110) rfl rfl), (mT_1 (i := 9) rfl rfl), by decide +kernel, by decide +kernel, by decide +kernel, by decide +kernel⟩
theorem jM_least_v : Cond.instanceMethod jM_least.1 ∈ mT ∧ Cond.selects jM_least.1.cls jM_least.1 jM_least.1 ∈ mT := ⟨(mT_4 (i := 108) rfl rfl), (mT_4 (i := 109) rfl rfl)⟩
abbrev jM_shared : mx_J := (⟨"MovedRegistersModel", "shared", "()I"⟩, prog_11_method_31_code, 5, (some .int))
theorem jM_shared_ok : mx_ok mT jM_shared 0 := ⟨(mT_4 (i := 130) rfl rfl), (mT_1 (i := 9) rfl rfl), by decide +kernel, by decide +kernel, by decide +kernel, by decide +kernel⟩
theorem jM_shared_v : Cond.instanceMethod jM_shared.1 ∈ mT ∧ Cond.selects jM_shared.1.cls jM_shared.1 jM_shared.1 ∈ mT := ⟨(mT_4 (i := 128) rfl rfl), (mT_4 (i := 129) rfl rfl)⟩
abbrev jM_made : mx_J := (⟨"MovedRegistersModel", "made", "(III)I"⟩, prog_11_method_32_code, 3, (some .int))
theorem jM_made_ok : mx_ok mT jM_made 3 := ⟨(mT_4 (i := 153) rfl rfl), (mT_1 (i := 9) rfl rfl), by decide +kernel, by decide +kernel, by decide +kernel, by decide +kernel⟩
theorem jM_made_v : Cond.static jM_made.1 ∈ mT := (mT_4 (i := 152) rfl rfl)
abbrev jM_push : mx_J := (⟨"MovedRegistersModel", "push", "(II)V"⟩, prog_11_method_33_code, 4, none)
theorem jM_push_ok : mx_ok mT jM_push 2 := ⟨(mT_4 (i := 165) rfl rfl), (mT_1 (i := 9) rfl rfl), by decide +kernel, by decide +kernel, by decide +kernel, by decide +kernel⟩
theorem jM_push_v : Cond.instanceMethod jM_push.1 ∈ mT ∧ Cond.selects jM_push.1.cls jM_push.1 jM_push.1 ∈ mT := ⟨(mT_4 (i := 164) rfl rfl), (mT_s (i := 48) (n := 15) rfl)⟩
abbrev jM_pull : mx_J := (⟨"MovedRegistersModel", "pull", "(I)I"⟩, prog_11_method_34_code, 4, (some .int))
theorem jM_pull_ok : mx_ok mT jM_pull 1 := ⟨(mT_4 (i := 150) rfl rfl), (mT_1 (i := 9) rfl rfl), by decide +kernel, by decide +kernel, by decide +kernel, by decide +kernel⟩
theorem jM_pull_v : Cond.instanceMethod jM_pull.1 ∈ mT ∧ Cond.selects jM_pull.1.cls jM_pull.1 jM_pull.1 ∈ mT := ⟨(mT_4 (i := 149) rfl rfl), (mT_s (i := 45) (n := 15) rfl)⟩
abbrev jM_canForward : mx_J := (⟨"MovedRegistersModel", "canForward", "(I)Z"⟩, prog_11_method_35_code, 4, (some .boolean))
theorem jM_canForward_ok : mx_ok mT jM_canForward 1 := ⟨(mT_4 (i := 142) rfl rfl), (mT_1 (i := 9) rfl rfl), by decide +kernel, by decide +kernel, by decide +kernel, by decide +kernel⟩
theorem jM_canForward_v : Cond.instanceMethod jM_canForward.1 ∈ mT ∧ Cond.selects jM_canForward.1.cls jM_canForward.1 jM_canForward.1 ∈ mT := ⟨(mT_4 (i := 141) rfl rfl), (mT_s (i := 43) (n := 15) rfl)⟩
abbrev jM_forward : mx_J := (⟨"MovedRegistersModel", "forward", "(I)V"⟩, prog_11_method_36_code, 6, none)
theorem jM_forward_ok : mx_ok mT jM_forward 1 := ⟨(mT_4 (i := 146) rfl rfl), (mT_1 (i := 9) rfl rfl), by decide +kernel, by decide +kernel, by decide +kernel, by decide +kernel⟩
theorem jM_forward_v : Cond.instanceMethod jM_forward.1 ∈ mT ∧ Cond.selects jM_forward.1.cls jM_forward.1 jM_forward.1 ∈ mT := ⟨(mT_4 (i := 145) rfl rfl), (mT_s (i := 44) (n := 15) rfl)⟩
abbrev jM_canBackward : mx_J := (⟨"MovedRegistersModel", "canBackward", "(I)Z"⟩, prog_11_method_37_code, 4, (some .boolean))
theorem jM_canBackward_ok : mx_ok mT jM_canBackward 1 := ⟨(mT_4 (i := 157) rfl rfl), (mT_1 (i := 9) rfl rfl), by decide +kernel, by decide +kernel, by decide +kernel, by decide +kernel⟩
theorem jM_canBackward_v : Cond.instanceMethod jM_canBackward.1 ∈ mT ∧ Cond.selects jM_canBackward.1.cls jM_canBackward.1 jM_canBackward.1 ∈ mT := ⟨(mT_4 (i := 156) rfl rfl), (mT_s (i := 46) (n := 15) rfl)⟩
abbrev jM_backward : mx_J := (⟨"MovedRegistersModel", "backward", "(I)Z"⟩, prog_11_method_38_code, 9, (some .boolean))
theorem jM_backward_ok : mx_ok mT jM_backward 1 := ⟨(mT_4 (i := 161) rfl rfl), (mT_1 (i := 9) rfl rfl), by decide +kernel, by decide +kernel, by decide +kernel, by decide +kernel⟩
theorem jM_backward_v : Cond.instanceMethod jM_backward.1 ∈ mT ∧ Cond.selects jM_backward.1.cls jM_backward.1 jM_backward.1 ∈ mT := ⟨(mT_4 (i := 160) rfl rfl), (mT_s (i := 47) (n := 15) rfl)⟩
abbrev jM_follow : mx_J := (⟨"MovedRegistersModel", "follow", "()Z"⟩, prog_11_method_39_code, 3, (some .boolean))
theorem jM_follow_ok : mx_ok mT jM_follow 0 := ⟨(mT_4 (i := 138) rfl rfl), (mT_1 (i := 9) rfl rfl), by decide +kernel, by decide +kernel, by decide +kernel, by decide +kernel⟩
theorem jM_follow_v : Cond.instanceMethod jM_follow.1 ∈ mT ∧ Cond.selects jM_follow.1.cls jM_follow.1 jM_follow.1 ∈ mT := ⟨(mT_4 (i := 137) rfl rfl), (mT_s (i := 42) (n := 15) rfl)⟩
abbrev jM_retime : mx_J := (⟨"MovedRegistersModel", "retime", "(I)I"⟩, prog_11_method_40_code, 4, (some .int))
theorem jM_retime_ok : mx_ok mT jM_retime 1 := ⟨(mT_4 (i := 134) rfl rfl), (mT_1 (i := 9) rfl rfl), by decide +kernel, by decide +kernel, by decide +kernel, by decide +kernel⟩
theorem jM_retime_v : Cond.instanceMethod jM_retime.1 ∈ mT ∧ Cond.selects jM_retime.1.cls jM_retime.1 jM_retime.1 ∈ mT := ⟨(mT_4 (i := 132) rfl rfl), (mT_4 (i := 133) rfl rfl)⟩
abbrev jM_label : mx_J := (⟨"MovedRegistersModel", "label", "(I)I"⟩, prog_11_method_41_code, 2, (some .int))
theorem jM_label_ok : mx_ok mT jM_label 1 := ⟨(mT_4 (i := 169) rfl rfl), (mT_1 (i := 9) rfl rfl), by decide +kernel, by decide +kernel, by decide +kernel, by decide +kernel⟩
theorem jM_label_v : Cond.instanceMethod jM_label.1 ∈ mT ∧ Cond.selects jM_label.1.cls jM_label.1 jM_label.1 ∈ mT := ⟨(mT_4 (i := 167) rfl rfl), (mT_4 (i := 168) rfl rfl)⟩
abbrev jM_input : mx_J := (⟨"MovedRegistersModel", "input", "(IIII)I"⟩, prog_11_method_42_code, 5, (some .int))
theorem jM_input_ok : mx_ok mT jM_input 4 := ⟨(mT_4 (i := 177) rfl rfl), (mT_1 (i := 9) rfl rfl), by decide +kernel, by decide +kernel, by decide +kernel, by decide +kernel⟩
theorem jM_input_v : Cond.instanceMethod jM_input.1 ∈ mT ∧ Cond.selects jM_input.1.cls jM_input.1 jM_input.1 ∈ mT := ⟨(mT_4 (i := 176) rfl rfl), (mT_s (i := 49) (n := 15) rfl)⟩
abbrev jM_tick : mx_J := (⟨"MovedRegistersModel", "tick", "(III)I"⟩, prog_11_method_43_code, 11, (some .int))
theorem jM_tick_ok : mx_ok mT jM_tick 3 := ⟨(mT_4 (i := 173) rfl rfl), (mT_1 (i := 9) rfl rfl), by decide +kernel, by decide +kernel, by decide +kernel, by decide +kernel⟩
theorem jM_tick_v : Cond.instanceMethod jM_tick.1 ∈ mT ∧ Cond.selects jM_tick.1.cls jM_tick.1 jM_tick.1 ∈ mT := ⟨(mT_4 (i := 171) rfl rfl), (mT_4 (i := 172) rfl rfl)⟩
abbrev jM_restart : mx_J := (⟨"MovedRegistersModel", "restart", "()V"⟩, prog_11_method_44_code, 1, none)
theorem jM_restart_ok : mx_ok mT jM_restart 0 := ⟨(mT_4 (i := 181) rfl rfl), (mT_1 (i := 9) rfl rfl), by decide +kernel, by decide +kernel, by decide +kernel, by decide +kernel⟩
theorem jM_restart_v : Cond.instanceMethod jM_restart.1 ∈ mT ∧ Cond.selects jM_restart.1.cls jM_restart.1 jM_restart.1 ∈ mT := ⟨(mT_4 (i := 179) rfl rfl), (mT_4 (i := 180) rfl rfl)⟩
abbrev jB_init : mx_J := (⟨"MovedRegisters$Bank", "<init>", "()V"⟩, prog_2_method_1_code, 1, none)
theorem jB_init_ok : mx_ok mT jB_init 0 := ⟨(mT_1 (i := 65) rfl rfl), (mT_1 (i := 3) rfl rfl), by decide +kernel, by decide +kernel, by decide +kernel, by decide +kernel⟩
abbrev jB_length : mx_J := (⟨"MovedRegisters$Bank", "length", "(I)I"⟩, prog_2_method_2_code, 2, (some .int))
theorem jB_length_ok : mx_ok mT jB_length 1 := ⟨(mT_2 (i := 0) rfl rfl), (mT_1 (i := 3) rfl rfl), by decide +kernel, by decide +kernel, by decide +kernel, by decide +kernel⟩
theorem jB_length_v : Cond.instanceMethod jB_length.1 ∈ mT ∧ Cond.selects jB_length.1.cls jB_length.1 jB_length.1 ∈ mT := ⟨(mT_1 (i := 238) rfl rfl), (mT_1 (i := 239) rfl rfl)⟩
abbrev jB_read : mx_J := (⟨"MovedRegisters$Bank", "read", "(II)I"⟩, prog_2_method_3_code, 3, (some .int))
theorem jB_read_ok : mx_ok mT jB_read 2 := ⟨(mT_2 (i := 190) rfl rfl), (mT_1 (i := 3) rfl rfl), by decide +kernel, by decide +kernel, by decide +kernel, by decide +kernel⟩
theorem jB_read_v : Cond.instanceMethod jB_read.1 ∈ mT ∧ Cond.selects jB_read.1.cls jB_read.1 jB_read.1 ∈ mT := ⟨(mT_2 (i := 188) rfl rfl), (mT_2 (i := 189) rfl rfl)⟩
abbrev jB_write : mx_J := (⟨"MovedRegisters$Bank", "write", "(III)V"⟩, prog_2_method_4_code, 6, none)
theorem jB_write_ok : mx_ok mT jB_write 3 := ⟨(mT_2 (i := 157) rfl rfl), (mT_1 (i := 3) rfl rfl), by decide +kernel, by decide +kernel, by decide +kernel, by decide +kernel⟩
theorem jB_write_v : Cond.instanceMethod jB_write.1 ∈ mT ∧ Cond.selects jB_write.1.cls jB_write.1 jB_write.1 ∈ mT := ⟨(mT_2 (i := 155) rfl rfl), (mT_2 (i := 156) rfl rfl)⟩
abbrev jB_fill : mx_J := (⟨"MovedRegisters$Bank", "fill", "(II)V"⟩, prog_2_method_5_code, 4, none)
theorem jB_fill_ok : mx_ok mT jB_fill 2 := ⟨(mT_2 (i := 149) rfl rfl), (mT_1 (i := 3) rfl rfl), by decide +kernel, by decide +kernel, by decide +kernel, by decide +kernel⟩
theorem jB_fill_v : Cond.instanceMethod jB_fill.1 ∈ mT ∧ Cond.selects jB_fill.1.cls jB_fill.1 jB_fill.1 ∈ mT := ⟨(mT_2 (i := 147) rfl rfl), (mT_2 (i := 148) rfl rfl)⟩
abbrev jB_takeAtSink : mx_J := (⟨"MovedRegisters$Bank", "takeAtSink", "(I)I"⟩, prog_2_method_6_code, 3, (some .int))
theorem jB_takeAtSink_ok : mx_ok mT jB_takeAtSink 1 := ⟨(mT_3 (i := 123) rfl rfl), (mT_1 (i := 3) rfl rfl), by decide +kernel, by decide +kernel, by decide +kernel, by decide +kernel⟩
theorem jB_takeAtSink_v : Cond.instanceMethod jB_takeAtSink.1 ∈ mT ∧ Cond.selects jB_takeAtSink.1.cls jB_takeAtSink.1 jB_takeAtSink.1 ∈ mT := ⟨(mT_3 (i := 121) rfl rfl), (mT_3 (i := 122) rfl rfl)⟩
abbrev jB_putAtSink : mx_J := (⟨"MovedRegisters$Bank", "putAtSink", "(II)V"⟩, prog_2_method_7_code, 3, none)
theorem jB_putAtSink_ok : mx_ok mT jB_putAtSink 2 := ⟨(mT_3 (i := 157) rfl rfl), (mT_1 (i := 3) rfl rfl), by decide +kernel, by decide +kernel, by decide +kernel, by decide +kernel⟩
theorem jB_putAtSink_v : Cond.instanceMethod jB_putAtSink.1 ∈ mT ∧ Cond.selects jB_putAtSink.1.cls jB_putAtSink.1 jB_putAtSink.1 ∈ mT := ⟨(mT_3 (i := 155) rfl rfl), (mT_3 (i := 156) rfl rfl)⟩
abbrev jB_takeAtSource : mx_J := (⟨"MovedRegisters$Bank", "takeAtSource", "(I)I"⟩, prog_2_method_8_code, 2, (some .int))
theorem jB_takeAtSource_ok : mx_ok mT jB_takeAtSource 1 := ⟨(mT_3 (i := 147) rfl rfl), (mT_1 (i := 3) rfl rfl), by decide +kernel, by decide +kernel, by decide +kernel, by decide +kernel⟩
theorem jB_takeAtSource_v : Cond.instanceMethod jB_takeAtSource.1 ∈ mT ∧ Cond.selects jB_takeAtSource.1.cls jB_takeAtSource.1 jB_takeAtSource.1 ∈ mT := ⟨(mT_3 (i := 145) rfl rfl), (mT_3 (i := 146) rfl rfl)⟩
abbrev jB_putAtSource : mx_J := (⟨"MovedRegisters$Bank", "putAtSource", "(II)V"⟩, prog_2_method_9_code, 3, none)
theorem jB_putAtSource_ok : mx_ok mT jB_putAtSource 2 := ⟨(mT_2 (i := 153) rfl rfl), (mT_1 (i := 3) rfl rfl), by decide +kernel, by decide +kernel, by decide +kernel, by decide +kernel⟩
theorem jB_putAtSource_v : Cond.instanceMethod jB_putAtSource.1 ∈ mT ∧ Cond.selects jB_putAtSource.1.cls jB_putAtSource.1 jB_putAtSource.1 ∈ mT := ⟨(mT_2 (i := 151) rfl rfl), (mT_2 (i := 152) rfl rfl)⟩
abbrev jB_copy : mx_J := (⟨"MovedRegisters$Bank", "copy", "(LMovedRegisters$Bank;)V"⟩, prog_2_method_10_code, 2, none)
theorem jB_copy_ok : mx_ok mT jB_copy 1 := ⟨(mT_2 (i := 12) rfl rfl), (mT_1 (i := 3) rfl rfl), by decide +kernel, by decide +kernel, by decide +kernel, by decide +kernel⟩
theorem jB_copy_v : Cond.instanceMethod jB_copy.1 ∈ mT ∧ Cond.selects jB_copy.1.cls jB_copy.1 jB_copy.1 ∈ mT := ⟨(mT_2 (i := 10) rfl rfl), (mT_2 (i := 11) rfl rfl)⟩
abbrev jC_init : mx_J := (⟨"MovedRegisters$Clock", "<init>", "()V"⟩, prog_3_method_1_code, 1, none)
theorem jC_init_ok : mx_ok mT jC_init 0 := ⟨(mT_1 (i := 141) rfl rfl), (mT_1 (i := 8) rfl rfl), by decide +kernel, by decide +kernel, by decide +kernel, by decide +kernel⟩
abbrev jC_begin : mx_J := (⟨"MovedRegisters$Clock", "begin", "(LMovedRegisters$Bank;)V"⟩, prog_3_method_2_code, 2, none)
theorem jC_begin_ok : mx_ok mT jC_begin 1 := ⟨(mT_2 (i := 8) rfl rfl), (mT_1 (i := 8) rfl rfl), by decide +kernel, by decide +kernel, by decide +kernel, by decide +kernel⟩
theorem jC_begin_v : Cond.instanceMethod jC_begin.1 ∈ mT ∧ Cond.selects jC_begin.1.cls jC_begin.1 jC_begin.1 ∈ mT := ⟨(mT_2 (i := 6) rfl rfl), (mT_2 (i := 7) rfl rfl)⟩
abbrev jC_setInputs : mx_J := (⟨"MovedRegisters$Clock", "setInputs", "(III)V"⟩, prog_3_method_3_code, 4, none)
theorem jC_setInputs_ok : mx_ok mT jC_setInputs 3 := ⟨(mT_3 (i := 176) rfl rfl), (mT_1 (i := 8) rfl rfl), by decide +kernel, by decide +kernel, by decide +kernel, by decide +kernel⟩
theorem jC_setInputs_v : Cond.instanceMethod jC_setInputs.1 ∈ mT ∧ Cond.selects jC_setInputs.1.cls jC_setInputs.1 jC_setInputs.1 ∈ mT := ⟨(mT_3 (i := 174) rfl rfl), (mT_3 (i := 175) rfl rfl)⟩
abbrev jC_settle : mx_J := (⟨"MovedRegisters$Clock", "settle", "(LMovedRegisters$Plan;LMovedRegisters$Order;)V"⟩, prog_3_method_4_code, 8, none)
theorem jC_settle_ok : mx_ok mT jC_settle 2 := ⟨(mT_3 (i := 180) rfl rfl), (mT_1 (i := 8) rfl rfl), by decide +kernel, by decide +kernel, by decide +kernel, by decide +kernel⟩
theorem jC_settle_v : Cond.instanceMethod jC_settle.1 ∈ mT ∧ Cond.selects jC_settle.1.cls jC_settle.1 jC_settle.1 ∈ mT := ⟨(mT_3 (i := 178) rfl rfl), (mT_3 (i := 179) rfl rfl)⟩
abbrev jC_outputs : mx_J := (⟨"MovedRegisters$Clock", "outputs", "(LMovedRegisters$Plan;)I"⟩, prog_3_method_5_code, 5, (some .int))
theorem jC_outputs_ok : mx_ok mT jC_outputs 1 := ⟨(mT_3 (i := 193) rfl rfl), (mT_1 (i := 8) rfl rfl), by decide +kernel, by decide +kernel, by decide +kernel, by decide +kernel⟩
theorem jC_outputs_v : Cond.instanceMethod jC_outputs.1 ∈ mT ∧ Cond.selects jC_outputs.1.cls jC_outputs.1 jC_outputs.1 ∈ mT := ⟨(mT_3 (i := 191) rfl rfl), (mT_3 (i := 192) rfl rfl)⟩
abbrev jC_shift : mx_J := (⟨"MovedRegisters$Clock", "shift", "(LMovedRegisters$Plan;)V"⟩, prog_3_method_6_code, 3, none)
theorem jC_shift_ok : mx_ok mT jC_shift 1 := ⟨(mT_3 (i := 197) rfl rfl), (mT_1 (i := 8) rfl rfl), by decide +kernel, by decide +kernel, by decide +kernel, by decide +kernel⟩
theorem jC_shift_v : Cond.instanceMethod jC_shift.1 ∈ mT ∧ Cond.selects jC_shift.1.cls jC_shift.1 jC_shift.1 ∈ mT := ⟨(mT_3 (i := 195) rfl rfl), (mT_3 (i := 196) rfl rfl)⟩
abbrev jC_valueOf : mx_J := (⟨"MovedRegisters$Clock", "valueOf", "(LMovedRegisters$Plan;I)I"⟩, prog_3_method_7_code, 3, (some .int))
theorem jC_valueOf_ok : mx_ok mT jC_valueOf 2 := ⟨(mT_3 (i := 185) rfl rfl), (mT_1 (i := 8) rfl rfl), by decide +kernel, by decide +kernel, by decide +kernel, by decide +kernel⟩
theorem jC_valueOf_v : Cond.instanceMethod jC_valueOf.1 ∈ mT ∧ Cond.selects jC_valueOf.1.cls jC_valueOf.1 jC_valueOf.1 ∈ mT := ⟨(mT_3 (i := 184) rfl rfl), (mT_s (i := 26) (n := 2) rfl)⟩
abbrev jL_init : mx_J := (⟨"MovedRegisters$Limits", "<init>", "()V"⟩, prog_4_method_1_code, 1, none)
theorem jL_init_ok : mx_ok mT jL_init 0 := ⟨(mT_1 (i := 116) rfl rfl), (mT_1 (i := 6) rfl rfl), by decide +kernel, by decide +kernel, by decide +kernel, by decide +kernel⟩
abbrev jL_set : mx_J := (⟨"MovedRegisters$Limits", "set", "(LMovedRegisters$Plan;LMovedRegisters$Bank;LMovedRegisters$Paths;I)V"⟩, prog_4_method_2_code, 7, none)
theorem jL_set_ok : mx_ok mT jL_set 4 := ⟨(mT_3 (i := 41) rfl rfl), (mT_1 (i := 6) rfl rfl), by decide +kernel, by decide +kernel, by decide +kernel, by decide +kernel⟩
theorem jL_set_v : Cond.instanceMethod jL_set.1 ∈ mT ∧ Cond.selects jL_set.1.cls jL_set.1 jL_set.1 ∈ mT := ⟨(mT_3 (i := 39) rfl rfl), (mT_3 (i := 40) rfl rfl)⟩
abbrev jL_solve : mx_J := (⟨"MovedRegisters$Limits", "solve", "(II)Z"⟩, prog_4_method_3_code, 5, (some .boolean))
theorem jL_solve_ok : mx_ok mT jL_solve 2 := ⟨(mT_3 (i := 63) rfl rfl), (mT_1 (i := 6) rfl rfl), by decide +kernel, by decide +kernel, by decide +kernel, by decide +kernel⟩
theorem jL_solve_v : Cond.instanceMethod jL_solve.1 ∈ mT ∧ Cond.selects jL_solve.1.cls jL_solve.1 jL_solve.1 ∈ mT := ⟨(mT_3 (i := 61) rfl rfl), (mT_3 (i := 62) rfl rfl)⟩
abbrev jL_limitWire : mx_J := (⟨"MovedRegisters$Limits", "limitWire", "(III)V"⟩, prog_4_method_4_code, 4, none)
theorem jL_limitWire_ok : mx_ok mT jL_limitWire 3 := ⟨(mT_3 (i := 48) rfl rfl), (mT_1 (i := 6) rfl rfl), by decide +kernel, by decide +kernel, by decide +kernel, by decide +kernel⟩
theorem jL_limitWire_v : Cond.instanceMethod jL_limitWire.1 ∈ mT ∧ Cond.selects jL_limitWire.1.cls jL_limitWire.1 jL_limitWire.1 ∈ mT := ⟨(mT_3 (i := 47) rfl rfl), (mT_s (i := 13) (n := 2) rfl)⟩
abbrev jL_limitPaths : mx_J := (⟨"MovedRegisters$Limits", "limitPaths", "(ILMovedRegisters$Paths;II)V"⟩, prog_4_method_5_code, 6, none)
theorem jL_limitPaths_ok : mx_ok mT jL_limitPaths 4 := ⟨(mT_3 (i := 59) rfl rfl), (mT_1 (i := 6) rfl rfl), by decide +kernel, by decide +kernel, by decide +kernel, by decide +kernel⟩
theorem jL_limitPaths_v : Cond.instanceMethod jL_limitPaths.1 ∈ mT ∧ Cond.selects jL_limitPaths.1.cls jL_limitPaths.1 jL_limitPaths.1 ∈ mT := ⟨(mT_3 (i := 58) rfl rfl), (mT_s (i := 15) (n := 2) rfl)⟩
abbrev jL_limit : mx_J := (⟨"MovedRegisters$Limits", "limit", "(III)V"⟩, prog_4_method_6_code, 4, none)
theorem jL_limit_ok : mx_ok mT jL_limit 3 := ⟨(mT_3 (i := 52) rfl rfl), (mT_1 (i := 6) rfl rfl), by decide +kernel, by decide +kernel, by decide +kernel, by decide +kernel⟩
theorem jL_limit_v : Cond.instanceMethod jL_limit.1 ∈ mT ∧ Cond.selects jL_limit.1.cls jL_limit.1 jL_limit.1 ∈ mT := ⟨(mT_3 (i := 51) rfl rfl), (mT_s (i := 14) (n := 2) rfl)⟩
abbrev jL_lowerAll : mx_J := (⟨"MovedRegisters$Limits", "lowerAll", "(I)Z"⟩, prog_4_method_7_code, 5, (some .boolean))
theorem jL_lowerAll_ok : mx_ok mT jL_lowerAll 1 := ⟨(mT_3 (i := 67) rfl rfl), (mT_1 (i := 6) rfl rfl), by decide +kernel, by decide +kernel, by decide +kernel, by decide +kernel⟩
theorem jL_lowerAll_v : Cond.instanceMethod jL_lowerAll.1 ∈ mT ∧ Cond.selects jL_lowerAll.1.cls jL_lowerAll.1 jL_lowerAll.1 ∈ mT := ⟨(mT_3 (i := 66) rfl rfl), (mT_s (i := 16) (n := 2) rfl)⟩
abbrev jL_areAllowed : mx_J := (⟨"MovedRegisters$Limits", "areAllowed", "(I)Z"⟩, prog_4_method_8_code, 3, (some .boolean))
theorem jL_areAllowed_ok : mx_ok mT jL_areAllowed 1 := ⟨(mT_3 (i := 71) rfl rfl), (mT_1 (i := 6) rfl rfl), by decide +kernel, by decide +kernel, by decide +kernel, by decide +kernel⟩
theorem jL_areAllowed_v : Cond.instanceMethod jL_areAllowed.1 ∈ mT ∧ Cond.selects jL_areAllowed.1.cls jL_areAllowed.1 jL_areAllowed.1 ∈ mT := ⟨(mT_3 (i := 70) rfl rfl), (mT_s (i := 17) (n := 2) rfl)⟩
abbrev jG_made : mx_J := (⟨"MovedRegisters$Logic", "made", "(III)I"⟩, prog_5_method_2_code, 3, (some .int))
theorem jG_made_ok : mx_ok mT jG_made 3 := ⟨(mT_3 (i := 128) rfl rfl), (mT_1 (i := 19) rfl rfl), by decide +kernel, by decide +kernel, by decide +kernel, by decide +kernel⟩
theorem jG_made_v : Cond.static jG_made.1 ∈ mT := (mT_3 (i := 127) rfl rfl)
abbrev jG_needed : mx_J := (⟨"MovedRegisters$Logic", "needed", "(III)I"⟩, prog_5_method_3_code, 3, (some .int))
theorem jG_needed_ok : mx_ok mT jG_needed 3 := ⟨(mT_3 (i := 153) rfl rfl), (mT_1 (i := 19) rfl rfl), by decide +kernel, by decide +kernel, by decide +kernel, by decide +kernel⟩
theorem jG_needed_v : Cond.static jG_needed.1 ∈ mT := (mT_3 (i := 152) rfl rfl)
abbrev jG_opposite : mx_J := (⟨"MovedRegisters$Logic", "opposite", "(I)I"⟩, prog_5_method_4_code, 1, (some .int))
theorem jG_opposite_ok : mx_ok mT jG_opposite 1 := ⟨(mT_3 (i := 131) rfl rfl), (mT_1 (i := 19) rfl rfl), by decide +kernel, by decide +kernel, by decide +kernel, by decide +kernel⟩
theorem jG_opposite_v : Cond.static jG_opposite.1 ∈ mT := (mT_3 (i := 130) rfl rfl)
abbrev jG_ruled : mx_J := (⟨"MovedRegisters$Logic", "ruled", "(III)I"⟩, prog_5_method_5_code, 3, (some .int))
theorem jG_ruled_ok : mx_ok mT jG_ruled 3 := ⟨(mT_3 (i := 134) rfl rfl), (mT_1 (i := 19) rfl rfl), by decide +kernel, by decide +kernel, by decide +kernel, by decide +kernel⟩
theorem jG_ruled_v : Cond.static jG_ruled.1 ∈ mT := (mT_3 (i := 133) rfl rfl)
abbrev jV_init : mx_J := (⟨"MovedRegisters$Mover", "<init>", "()V"⟩, prog_6_method_1_code, 1, none)
theorem jV_init_ok : mx_ok mT jV_init 0 := ⟨(mT_1 (i := 131) rfl rfl), (mT_1 (i := 7) rfl rfl), by decide +kernel, by decide +kernel, by decide +kernel, by decide +kernel⟩
abbrev jV_follow : mx_J := (⟨"MovedRegisters$Mover", "follow", "(LMovedRegisters$Plan;LMovedRegisters$Bank;[I)Z"⟩, prog_6_method_2_code, 5, (some .boolean))
theorem jV_follow_ok : mx_ok mT jV_follow 3 := ⟨(mT_3 (i := 99) rfl rfl), (mT_1 (i := 7) rfl rfl), by decide +kernel, by decide +kernel, by decide +kernel, by decide +kernel⟩
theorem jV_follow_v : Cond.instanceMethod jV_follow.1 ∈ mT ∧ Cond.selects jV_follow.1.cls jV_follow.1 jV_follow.1 ∈ mT := ⟨(mT_3 (i := 97) rfl rfl), (mT_3 (i := 98) rfl rfl)⟩
abbrev jV_isDone : mx_J := (⟨"MovedRegisters$Mover", "isDone", "(I)Z"⟩, prog_6_method_3_code, 3, (some .boolean))
theorem jV_isDone_ok : mx_ok mT jV_isDone 1 := ⟨(mT_3 (i := 104) rfl rfl), (mT_1 (i := 7) rfl rfl), by decide +kernel, by decide +kernel, by decide +kernel, by decide +kernel⟩
theorem jV_isDone_v : Cond.instanceMethod jV_isDone.1 ∈ mT ∧ Cond.selects jV_isDone.1.cls jV_isDone.1 jV_isDone.1 ∈ mT := ⟨(mT_3 (i := 103) rfl rfl), (mT_s (i := 20) (n := 1) rfl)⟩
abbrev jV_moveEach : mx_J := (⟨"MovedRegisters$Mover", "moveEach", "(LMovedRegisters$Plan;LMovedRegisters$Bank;)Z"⟩, prog_6_method_4_code, 4, (some .boolean))
theorem jV_moveEach_ok : mx_ok mT jV_moveEach 2 := ⟨(mT_3 (i := 108) rfl rfl), (mT_1 (i := 7) rfl rfl), by decide +kernel, by decide +kernel, by decide +kernel, by decide +kernel⟩
theorem jV_moveEach_v : Cond.instanceMethod jV_moveEach.1 ∈ mT ∧ Cond.selects jV_moveEach.1.cls jV_moveEach.1 jV_moveEach.1 ∈ mT := ⟨(mT_3 (i := 107) rfl rfl), (mT_s (i := 21) (n := 1) rfl)⟩
abbrev jV_canForward : mx_J := (⟨"MovedRegisters$Mover", "canForward", "(LMovedRegisters$Plan;LMovedRegisters$Bank;I)Z"⟩, prog_6_method_5_code, 5, (some .boolean))
theorem jV_canForward_ok : mx_ok mT jV_canForward 3 := ⟨(mT_3 (i := 112) rfl rfl), (mT_1 (i := 7) rfl rfl), by decide +kernel, by decide +kernel, by decide +kernel, by decide +kernel⟩
theorem jV_canForward_v : Cond.instanceMethod jV_canForward.1 ∈ mT ∧ Cond.selects jV_canForward.1.cls jV_canForward.1 jV_canForward.1 ∈ mT := ⟨(mT_3 (i := 111) rfl rfl), (mT_s (i := 22) (n := 1) rfl)⟩
abbrev jV_canBackward : mx_J := (⟨"MovedRegisters$Mover", "canBackward", "(LMovedRegisters$Plan;LMovedRegisters$Bank;I)Z"⟩, prog_6_method_6_code, 5, (some .boolean))
theorem jV_canBackward_ok : mx_ok mT jV_canBackward 3 := ⟨(mT_3 (i := 139) rfl rfl), (mT_1 (i := 7) rfl rfl), by decide +kernel, by decide +kernel, by decide +kernel, by decide +kernel⟩
theorem jV_canBackward_v : Cond.instanceMethod jV_canBackward.1 ∈ mT ∧ Cond.selects jV_canBackward.1.cls jV_canBackward.1 jV_canBackward.1 ∈ mT := ⟨(mT_3 (i := 138) rfl rfl), (mT_s (i := 24) (n := 1) rfl)⟩
abbrev jV_forward : mx_J := (⟨"MovedRegisters$Mover", "forward", "(LMovedRegisters$Plan;LMovedRegisters$Bank;I)V"⟩, prog_6_method_7_code, 9, none)
theorem jV_forward_ok : mx_ok mT jV_forward 3 := ⟨(mT_3 (i := 119) rfl rfl), (mT_1 (i := 7) rfl rfl), by decide +kernel, by decide +kernel, by decide +kernel, by decide +kernel⟩
theorem jV_forward_v : Cond.instanceMethod jV_forward.1 ∈ mT ∧ Cond.selects jV_forward.1.cls jV_forward.1 jV_forward.1 ∈ mT := ⟨(mT_3 (i := 118) rfl rfl), (mT_s (i := 23) (n := 1) rfl)⟩
abbrev jV_backward : mx_J := (⟨"MovedRegisters$Mover", "backward", "(LMovedRegisters$Plan;LMovedRegisters$Bank;I)Z"⟩, prog_6_method_8_code, 7, (some .boolean))
theorem jV_backward_ok : mx_ok mT jV_backward 3 := ⟨(mT_3 (i := 143) rfl rfl), (mT_1 (i := 7) rfl rfl), by decide +kernel, by decide +kernel, by decide +kernel, by decide +kernel⟩
theorem jV_backward_v : Cond.instanceMethod jV_backward.1 ∈ mT ∧ Cond.selects jV_backward.1.cls jV_backward.1 jV_backward.1 ∈ mT := ⟨(mT_3 (i := 142) rfl rfl), (mT_s (i := 25) (n := 1) rfl)⟩
abbrev jV_joined : mx_J := (⟨"MovedRegisters$Mover", "joined", "(II)I"⟩, prog_6_method_9_code, 2, (some .int))
theorem jV_joined_ok : mx_ok mT jV_joined 2 := ⟨(mT_3 (i := 150) rfl rfl), (mT_1 (i := 7) rfl rfl), by decide +kernel, by decide +kernel, by decide +kernel, by decide +kernel⟩
theorem jV_joined_v : Cond.static jV_joined.1 ∈ mT := (mT_3 (i := 149) rfl rfl)
abbrev jO_init : mx_J := (⟨"MovedRegisters$Order", "<init>", "()V"⟩, prog_7_method_1_code, 1, none)
theorem jO_init_ok : mx_ok mT jO_init 0 := ⟨(mT_1 (i := 79) rfl rfl), (mT_1 (i := 4) rfl rfl), by decide +kernel, by decide +kernel, by decide +kernel, by decide +kernel⟩
abbrev jO_arrange : mx_J := (⟨"MovedRegisters$Order", "arrange", "(LMovedRegisters$Plan;LMovedRegisters$Bank;)Z"⟩, prog_7_method_2_code, 4, (some .boolean))
theorem jO_arrange_ok : mx_ok mT jO_arrange 2 := ⟨(mT_1 (i := 219) rfl rfl), (mT_1 (i := 4) rfl rfl), by decide +kernel, by decide +kernel, by decide +kernel, by decide +kernel⟩
theorem jO_arrange_v : Cond.instanceMethod jO_arrange.1 ∈ mT ∧ Cond.selects jO_arrange.1.cls jO_arrange.1 jO_arrange.1 ∈ mT := ⟨(mT_1 (i := 217) rfl rfl), (mT_1 (i := 218) rfl rfl)⟩
abbrev jO_placeReady : mx_J := (⟨"MovedRegisters$Order", "placeReady", "(LMovedRegisters$Plan;LMovedRegisters$Bank;)V"⟩, prog_7_method_3_code, 4, none)
theorem jO_placeReady_ok : mx_ok mT jO_placeReady 2 := ⟨(mT_1 (i := 223) rfl rfl), (mT_1 (i := 4) rfl rfl), by decide +kernel, by decide +kernel, by decide +kernel, by decide +kernel⟩
theorem jO_placeReady_v : Cond.instanceMethod jO_placeReady.1 ∈ mT ∧ Cond.selects jO_placeReady.1.cls jO_placeReady.1 jO_placeReady.1 ∈ mT := ⟨(mT_1 (i := 222) rfl rfl), (mT_s (i := 3) (n := 3) rfl)⟩
abbrev jO_isReady : mx_J := (⟨"MovedRegisters$Order", "isReady", "(LMovedRegisters$Plan;LMovedRegisters$Bank;I)Z"⟩, prog_7_method_4_code, 6, (some .boolean))
theorem jO_isReady_ok : mx_ok mT jO_isReady 3 := ⟨(mT_1 (i := 227) rfl rfl), (mT_1 (i := 4) rfl rfl), by decide +kernel, by decide +kernel, by decide +kernel, by decide +kernel⟩
theorem jO_isReady_v : Cond.instanceMethod jO_isReady.1 ∈ mT ∧ Cond.selects jO_isReady.1.cls jO_isReady.1 jO_isReady.1 ∈ mT := ⟨(mT_1 (i := 226) rfl rfl), (mT_s (i := 4) (n := 3) rfl)⟩
abbrev jH_init : mx_J := (⟨"MovedRegisters$Paths", "<init>", "()V"⟩, prog_8_method_1_code, 1, none)
theorem jH_init_ok : mx_ok mT jH_init 0 := ⟨(mT_1 (i := 97) rfl rfl), (mT_1 (i := 5) rfl rfl), by decide +kernel, by decide +kernel, by decide +kernel, by decide +kernel⟩
abbrev jH_measure : mx_J := (⟨"MovedRegisters$Paths", "measure", "(LMovedRegisters$Plan;LMovedRegisters$Bank;)V"⟩, prog_8_method_2_code, 5, none)
theorem jH_measure_ok : mx_ok mT jH_measure 2 := ⟨(mT_2 (i := 228) rfl rfl), (mT_1 (i := 5) rfl rfl), by decide +kernel, by decide +kernel, by decide +kernel, by decide +kernel⟩
theorem jH_measure_v : Cond.instanceMethod jH_measure.1 ∈ mT ∧ Cond.selects jH_measure.1.cls jH_measure.1 jH_measure.1 ∈ mT := ⟨(mT_2 (i := 226) rfl rfl), (mT_2 (i := 227) rfl rfl)⟩
abbrev jH_longestUnregistered : mx_J := (⟨"MovedRegisters$Paths", "longestUnregistered", "(I)I"⟩, prog_8_method_3_code, 5, (some .int))
theorem jH_longestUnregistered_ok : mx_ok mT jH_longestUnregistered 1 := ⟨(mT_3 (i := 10) rfl rfl), (mT_1 (i := 5) rfl rfl), by decide +kernel, by decide +kernel, by decide +kernel, by decide +kernel⟩
theorem jH_longestUnregistered_v : Cond.instanceMethod jH_longestUnregistered.1 ∈ mT ∧ Cond.selects jH_longestUnregistered.1.cls jH_longestUnregistered.1 jH_longestUnregistered.1 ∈ mT := ⟨(mT_3 (i := 8) rfl rfl), (mT_3 (i := 9) rfl rfl)⟩
abbrev jH_offerWire : mx_J := (⟨"MovedRegisters$Paths", "offerWire", "(LMovedRegisters$Plan;LMovedRegisters$Bank;I)V"⟩, prog_8_method_4_code, 6, none)
theorem jH_offerWire_ok : mx_ok mT jH_offerWire 3 := ⟨(mT_2 (i := 236) rfl rfl), (mT_1 (i := 5) rfl rfl), by decide +kernel, by decide +kernel, by decide +kernel, by decide +kernel⟩
theorem jH_offerWire_v : Cond.instanceMethod jH_offerWire.1 ∈ mT ∧ Cond.selects jH_offerWire.1.cls jH_offerWire.1 jH_offerWire.1 ∈ mT := ⟨(mT_2 (i := 235) rfl rfl), (mT_s (i := 10) (n := 2) rfl)⟩
abbrev jH_offerOver : mx_J := (⟨"MovedRegisters$Paths", "offerOver", "(LMovedRegisters$Plan;II)V"⟩, prog_8_method_5_code, 6, none)
theorem jH_offerOver_ok : mx_ok mT jH_offerOver 3 := ⟨(mT_3 (i := 6) rfl rfl), (mT_1 (i := 5) rfl rfl), by decide +kernel, by decide +kernel, by decide +kernel, by decide +kernel⟩
theorem jH_offerOver_v : Cond.instanceMethod jH_offerOver.1 ∈ mT ∧ Cond.selects jH_offerOver.1.cls jH_offerOver.1 jH_offerOver.1 ∈ mT := ⟨(mT_3 (i := 5) rfl rfl), (mT_s (i := 11) (n := 2) rfl)⟩
abbrev jH_offer : mx_J := (⟨"MovedRegisters$Paths", "offer", "(IIII)V"⟩, prog_8_method_6_code, 6, none)
theorem jH_offer_ok : mx_ok mT jH_offer 4 := ⟨(mT_2 (i := 232) rfl rfl), (mT_1 (i := 5) rfl rfl), by decide +kernel, by decide +kernel, by decide +kernel, by decide +kernel⟩
theorem jH_offer_v : Cond.instanceMethod jH_offer.1 ∈ mT ∧ Cond.selects jH_offer.1.cls jH_offer.1 jH_offer.1 ∈ mT := ⟨(mT_2 (i := 231) rfl rfl), (mT_s (i := 9) (n := 2) rfl)⟩
abbrev jP_init : mx_J := (⟨"MovedRegisters$Plan", "<init>", "()V"⟩, prog_9_method_1_code, 1, none)
theorem jP_init_ok : mx_ok mT jP_init 0 := ⟨(mT_1 (i := 32) rfl rfl), (mT_1 (i := 2) rfl rfl), by decide +kernel, by decide +kernel, by decide +kernel, by decide +kernel⟩
abbrev jP_addGate : mx_J := (⟨"MovedRegisters$Plan", "addGate", "(II)V"⟩, prog_9_method_2_code, 3, none)
theorem jP_addGate_ok : mx_ok mT jP_addGate 2 := ⟨(mT_2 (i := 107) rfl rfl), (mT_1 (i := 2) rfl rfl), by decide +kernel, by decide +kernel, by decide +kernel, by decide +kernel⟩
theorem jP_addGate_v : Cond.instanceMethod jP_addGate.1 ∈ mT ∧ Cond.selects jP_addGate.1.cls jP_addGate.1 jP_addGate.1 ∈ mT := ⟨(mT_2 (i := 105) rfl rfl), (mT_2 (i := 106) rfl rfl)⟩
abbrev jP_hasGate : mx_J := (⟨"MovedRegisters$Plan", "hasGate", "(I)Z"⟩, prog_9_method_3_code, 2, (some .boolean))
theorem jP_hasGate_ok : mx_ok mT jP_hasGate 1 := ⟨(mT_2 (i := 123) rfl rfl), (mT_1 (i := 2) rfl rfl), by decide +kernel, by decide +kernel, by decide +kernel, by decide +kernel⟩
theorem jP_hasGate_v : Cond.instanceMethod jP_hasGate.1 ∈ mT ∧ Cond.selects jP_hasGate.1.cls jP_hasGate.1 jP_hasGate.1 ∈ mT := ⟨(mT_2 (i := 121) rfl rfl), (mT_2 (i := 122) rfl rfl)⟩
abbrev jP_hasEnd : mx_J := (⟨"MovedRegisters$Plan", "hasEnd", "(I)Z"⟩, prog_9_method_4_code, 2, (some .boolean))
theorem jP_hasEnd_ok : mx_ok mT jP_hasEnd 1 := ⟨(mT_2 (i := 119) rfl rfl), (mT_1 (i := 2) rfl rfl), by decide +kernel, by decide +kernel, by decide +kernel, by decide +kernel⟩
theorem jP_hasEnd_v : Cond.instanceMethod jP_hasEnd.1 ∈ mT ∧ Cond.selects jP_hasEnd.1.cls jP_hasEnd.1 jP_hasEnd.1 ∈ mT := ⟨(mT_2 (i := 117) rfl rfl), (mT_2 (i := 118) rfl rfl)⟩
abbrev jP_placeOf : mx_J := (⟨"MovedRegisters$Plan", "placeOf", "(II)I"⟩, prog_9_method_5_code, 3, (some .int))
theorem jP_placeOf_ok : mx_ok mT jP_placeOf 2 := ⟨(mT_2 (i := 145) rfl rfl), (mT_1 (i := 2) rfl rfl), by decide +kernel, by decide +kernel, by decide +kernel, by decide +kernel⟩
theorem jP_placeOf_v : Cond.instanceMethod jP_placeOf.1 ∈ mT ∧ Cond.selects jP_placeOf.1.cls jP_placeOf.1 jP_placeOf.1 ∈ mT := ⟨(mT_2 (i := 143) rfl rfl), (mT_2 (i := 144) rfl rfl)⟩
abbrev jP_pinsOf : mx_J := (⟨"MovedRegisters$Plan", "pinsOf", "(I)I"⟩, prog_9_method_6_code, 2, (some .int))
theorem jP_pinsOf_ok : mx_ok mT jP_pinsOf 1 := ⟨(mT_1 (i := 211) rfl rfl), (mT_1 (i := 2) rfl rfl), by decide +kernel, by decide +kernel, by decide +kernel, by decide +kernel⟩
theorem jP_pinsOf_v : Cond.instanceMethod jP_pinsOf.1 ∈ mT ∧ Cond.selects jP_pinsOf.1.cls jP_pinsOf.1 jP_pinsOf.1 ∈ mT := ⟨(mT_1 (i := 209) rfl rfl), (mT_1 (i := 210) rfl rfl)⟩
abbrev jP_firstPin : mx_J := (⟨"MovedRegisters$Plan", "firstPin", "(I)I"⟩, prog_9_method_7_code, 2, (some .int))
theorem jP_firstPin_ok : mx_ok mT jP_firstPin 1 := ⟨(mT_1 (i := 203) rfl rfl), (mT_1 (i := 2) rfl rfl), by decide +kernel, by decide +kernel, by decide +kernel, by decide +kernel⟩
theorem jP_firstPin_v : Cond.instanceMethod jP_firstPin.1 ∈ mT ∧ Cond.selects jP_firstPin.1.cls jP_firstPin.1 jP_firstPin.1 ∈ mT := ⟨(mT_1 (i := 201) rfl rfl), (mT_1 (i := 202) rfl rfl)⟩
abbrev jP_endOfPins : mx_J := (⟨"MovedRegisters$Plan", "endOfPins", "(I)I"⟩, prog_9_method_8_code, 2, (some .int))
theorem jP_endOfPins_ok : mx_ok mT jP_endOfPins 1 := ⟨(mT_1 (i := 207) rfl rfl), (mT_1 (i := 2) rfl rfl), by decide +kernel, by decide +kernel, by decide +kernel, by decide +kernel⟩
theorem jP_endOfPins_v : Cond.instanceMethod jP_endOfPins.1 ∈ mT ∧ Cond.selects jP_endOfPins.1.cls jP_endOfPins.1 jP_endOfPins.1 ∈ mT := ⟨(mT_1 (i := 205) rfl rfl), (mT_1 (i := 206) rfl rfl)⟩
abbrev jP_gateBehind : mx_J := (⟨"MovedRegisters$Plan", "gateBehind", "(I)I"⟩, prog_9_method_9_code, 2, (some .int))
theorem jP_gateBehind_ok : mx_ok mT jP_gateBehind 1 := ⟨(mT_1 (i := 233) rfl rfl), (mT_1 (i := 2) rfl rfl), by decide +kernel, by decide +kernel, by decide +kernel, by decide +kernel⟩
theorem jP_gateBehind_v : Cond.instanceMethod jP_gateBehind.1 ∈ mT ∧ Cond.selects jP_gateBehind.1.cls jP_gateBehind.1 jP_gateBehind.1 ∈ mT := ⟨(mT_1 (i := 231) rfl rfl), (mT_1 (i := 232) rfl rfl)⟩
abbrev jP_gateBefore : mx_J := (⟨"MovedRegisters$Plan", "gateBefore", "(I)I"⟩, prog_9_method_10_code, 2, (some .int))
theorem jP_gateBefore_ok : mx_ok mT jP_gateBefore 1 := ⟨(mT_3 (i := 1) rfl rfl), (mT_1 (i := 2) rfl rfl), by decide +kernel, by decide +kernel, by decide +kernel, by decide +kernel⟩
theorem jP_gateBefore_v : Cond.instanceMethod jP_gateBefore.1 ∈ mT ∧ Cond.selects jP_gateBefore.1.cls jP_gateBefore.1 jP_gateBefore.1 ∈ mT := ⟨(mT_2 (i := 239) rfl rfl), (mT_3 (i := 0) rfl rfl)⟩
abbrev jP_isComplete : mx_J := (⟨"MovedRegisters$Plan", "isComplete", "()Z"⟩, prog_9_method_11_code, 2, (some .boolean))
theorem jP_isComplete_ok : mx_ok mT jP_isComplete 0 := ⟨(mT_1 (i := 195) rfl rfl), (mT_1 (i := 2) rfl rfl), by decide +kernel, by decide +kernel, by decide +kernel, by decide +kernel⟩
theorem jP_isComplete_v : Cond.instanceMethod jP_isComplete.1 ∈ mT ∧ Cond.selects jP_isComplete.1.cls jP_isComplete.1 jP_isComplete.1 ∈ mT := ⟨(mT_1 (i := 193) rfl rfl), (mT_1 (i := 194) rfl rfl)⟩
abbrev jP_isPort : mx_J := (⟨"MovedRegisters$Plan", "isPort", "(I)Z"⟩, prog_9_method_12_code, 1, (some .boolean))
theorem jP_isPort_ok : mx_ok mT jP_isPort 1 := ⟨(mT_2 (i := 126) rfl rfl), (mT_1 (i := 2) rfl rfl), by decide +kernel, by decide +kernel, by decide +kernel, by decide +kernel⟩
theorem jP_isPort_v : Cond.static jP_isPort.1 ∈ mT := (mT_2 (i := 125) rfl rfl)
abbrev jP_hasAllPins : mx_J := (⟨"MovedRegisters$Plan", "hasAllPins", "(I)Z"⟩, prog_9_method_13_code, 3, (some .boolean))
theorem jP_hasAllPins_ok : mx_ok mT jP_hasAllPins 1 := ⟨(mT_1 (i := 199) rfl rfl), (mT_1 (i := 2) rfl rfl), by decide +kernel, by decide +kernel, by decide +kernel, by decide +kernel⟩
theorem jP_hasAllPins_v : Cond.instanceMethod jP_hasAllPins.1 ∈ mT ∧ Cond.selects jP_hasAllPins.1.cls jP_hasAllPins.1 jP_hasAllPins.1 ∈ mT := ⟨(mT_1 (i := 198) rfl rfl), (mT_s (i := 1) (n := 4) rfl)⟩
abbrev jP_isSource : mx_J := (⟨"MovedRegisters$Plan", "isSource", "(I)Z"⟩, prog_9_method_14_code, 3, (some .boolean))
theorem jP_isSource_ok : mx_ok mT jP_isSource 1 := ⟨(mT_1 (i := 215) rfl rfl), (mT_1 (i := 2) rfl rfl), by decide +kernel, by decide +kernel, by decide +kernel, by decide +kernel⟩
theorem jP_isSource_v : Cond.instanceMethod jP_isSource.1 ∈ mT ∧ Cond.selects jP_isSource.1.cls jP_isSource.1 jP_isSource.1 ∈ mT := ⟨(mT_1 (i := 214) rfl rfl), (mT_s (i := 2) (n := 4) rfl)⟩
theorem lkA_11 : mx_lk mT "MovedRegisters" 11 jP_init.1 := Or.inr ⟨"MovedRegisters", (mT_1 (i := 30) rfl rfl)⟩
theorem fgP_21 : mx_fg mT mCl "MovedRegisters$Plan" 21 1 0 := ⟨"MovedRegisters$Plan", F_P, 4, rfl, by decide, fw_P, Or.inl (mT_1 (i := 34) rfl rfl)⟩
theorem fpP_21 : mx_fp mT mCl "MovedRegisters$Plan" 21 1 0 (.int) := ⟨"MovedRegisters$Plan", F_P, 4, t_P, rfl, by decide, fw_P, Or.inl (mT_1 (i := 34) rfl rfl), t_P_ok, n_P, rfl, by decide +kernel⟩
theorem fgH_19 : mx_fg mT mCl "MovedRegisters$Paths" 19 1 0 := ⟨"MovedRegisters$Plan", F_P, 4, rfl, by decide, fw_P, Or.inl (mT_1 (i := 35) rfl rfl)⟩
theorem fpH_19 : mx_fp mT mCl "MovedRegisters$Paths" 19 1 0 (.int) := ⟨"MovedRegisters$Plan", F_P, 4, t_P, rfl, by decide, fw_P, Or.inl (mT_1 (i := 35) rfl rfl), t_P_ok, n_P, rfl, by decide +kernel⟩
theorem fgL_20 : mx_fg mT mCl "MovedRegisters$Limits" 20 1 0 := ⟨"MovedRegisters$Plan", F_P, 4, rfl, by decide, fw_P, Or.inl (mT_1 (i := 36) rfl rfl)⟩
theorem fpL_20 : mx_fp mT mCl "MovedRegisters$Limits" 20 1 0 (.int) := ⟨"MovedRegisters$Plan", F_P, 4, t_P, rfl, by decide, fw_P, Or.inl (mT_1 (i := 36) rfl rfl), t_P_ok, n_P, rfl, by decide +kernel⟩
theorem fgV_15 : mx_fg mT mCl "MovedRegisters$Mover" 15 1 0 := ⟨"MovedRegisters$Plan", F_P, 4, rfl, by decide, fw_P, Or.inl (mT_1 (i := 37) rfl rfl)⟩
theorem fpV_15 : mx_fp mT mCl "MovedRegisters$Mover" 15 1 0 (.int) := ⟨"MovedRegisters$Plan", F_P, 4, t_P, rfl, by decide, fw_P, Or.inl (mT_1 (i := 37) rfl rfl), t_P_ok, n_P, rfl, by decide +kernel⟩
theorem fgO_23 : mx_fg mT mCl "MovedRegisters$Order" 23 1 0 := ⟨"MovedRegisters$Plan", F_P, 4, rfl, by decide, fw_P, Or.inl (mT_1 (i := 38) rfl rfl)⟩
theorem fpO_23 : mx_fp mT mCl "MovedRegisters$Order" 23 1 0 (.int) := ⟨"MovedRegisters$Plan", F_P, 4, t_P, rfl, by decide, fw_P, Or.inl (mT_1 (i := 38) rfl rfl), t_P_ok, n_P, rfl, by decide +kernel⟩
theorem fgA_68 : mx_fg mT mCl "MovedRegisters" 68 1 0 := ⟨"MovedRegisters$Plan", F_P, 4, rfl, by decide, fw_P, Or.inl (mT_1 (i := 39) rfl rfl)⟩
theorem fpA_68 : mx_fp mT mCl "MovedRegisters" 68 1 0 (.int) := ⟨"MovedRegisters$Plan", F_P, 4, t_P, rfl, by decide, fw_P, Or.inl (mT_1 (i := 39) rfl rfl), t_P_ok, n_P, rfl, by decide +kernel⟩
theorem fgC_26 : mx_fg mT mCl "MovedRegisters$Clock" 26 1 0 := ⟨"MovedRegisters$Plan", F_P, 4, rfl, by decide, fw_P, Or.inl (mT_1 (i := 40) rfl rfl)⟩
theorem fpC_26 : mx_fp mT mCl "MovedRegisters$Clock" 26 1 0 (.int) := ⟨"MovedRegisters$Plan", F_P, 4, t_P, rfl, by decide, fw_P, Or.inl (mT_1 (i := 40) rfl rfl), t_P_ok, n_P, rfl, by decide +kernel⟩
theorem fgP_9 : mx_fg mT mCl "MovedRegisters$Plan" 9 1 1 := ⟨"MovedRegisters$Plan", F_P, 4, rfl, by decide, fw_P, Or.inl (mT_1 (i := 41) rfl rfl)⟩
theorem fgC_48 : mx_fg mT mCl "MovedRegisters$Clock" 48 1 1 := ⟨"MovedRegisters$Plan", F_P, 4, rfl, by decide, fw_P, Or.inl (mT_1 (i := 42) rfl rfl)⟩
theorem fgV_70 : mx_fg mT mCl "MovedRegisters$Mover" 70 1 1 := ⟨"MovedRegisters$Plan", F_P, 4, rfl, by decide, fw_P, Or.inl (mT_1 (i := 43) rfl rfl)⟩
theorem fgP_15 : mx_fg mT mCl "MovedRegisters$Plan" 15 1 2 := ⟨"MovedRegisters$Plan", F_P, 4, rfl, by decide, fw_P, Or.inl (mT_1 (i := 44) rfl rfl)⟩
theorem fgH_25 : mx_fg mT mCl "MovedRegisters$Paths" 25 1 2 := ⟨"MovedRegisters$Plan", F_P, 4, rfl, by decide, fw_P, Or.inl (mT_1 (i := 45) rfl rfl)⟩
theorem fgP_18 : mx_fg mT mCl "MovedRegisters$Plan" 18 1 3 := ⟨"MovedRegisters$Plan", F_P, 4, rfl, by decide, fw_P, Or.inl (mT_1 (i := 46) rfl rfl)⟩
theorem fgL_26 : mx_fg mT mCl "MovedRegisters$Limits" 26 1 3 := ⟨"MovedRegisters$Plan", F_P, 4, rfl, by decide, fw_P, Or.inl (mT_1 (i := 47) rfl rfl)⟩
theorem fgA_94 : mx_fg mT mCl "MovedRegisters" 94 1 3 := ⟨"MovedRegisters$Plan", F_P, 4, rfl, by decide, fw_P, Or.inl (mT_1 (i := 48) rfl rfl)⟩
theorem fgC_57 : mx_fg mT mCl "MovedRegisters$Clock" 57 1 3 := ⟨"MovedRegisters$Plan", F_P, 4, rfl, by decide, fw_P, Or.inl (mT_1 (i := 49) rfl rfl)⟩
theorem fgV_61 : mx_fg mT mCl "MovedRegisters$Mover" 61 1 3 := ⟨"MovedRegisters$Plan", F_P, 4, rfl, by decide, fw_P, Or.inl (mT_1 (i := 50) rfl rfl)⟩
theorem lkA_18 : mx_lk mT "MovedRegisters" 18 jB_init.1 := Or.inr ⟨"MovedRegisters", (mT_1 (i := 63) rfl rfl)⟩
theorem fgB_9 : mx_fg mT mCl "MovedRegisters$Bank" 9 2 0 := ⟨"MovedRegisters$Bank", F_B, 2, rfl, by decide, fw_B, Or.inl (mT_1 (i := 67) rfl rfl)⟩
theorem fgB_15 : mx_fg mT mCl "MovedRegisters$Bank" 15 2 1 := ⟨"MovedRegisters$Bank", F_B, 2, rfl, by decide, fw_B, Or.inl (mT_1 (i := 68) rfl rfl)⟩
theorem lkA_28 : mx_lk mT "MovedRegisters" 28 jO_init.1 := Or.inr ⟨"MovedRegisters", (mT_1 (i := 77) rfl rfl)⟩
theorem fgO_9 : mx_fg mT mCl "MovedRegisters$Order" 9 3 0 := ⟨"MovedRegisters$Order", F_O, 3, rfl, by decide, fw_O, Or.inl (mT_1 (i := 81) rfl rfl)⟩
theorem fgC_32 : mx_fg mT mCl "MovedRegisters$Clock" 32 3 0 := ⟨"MovedRegisters$Order", F_O, 3, rfl, by decide, fw_O, Or.inl (mT_1 (i := 82) rfl rfl)⟩
theorem fgO_15 : mx_fg mT mCl "MovedRegisters$Order" 15 3 1 := ⟨"MovedRegisters$Order", F_O, 3, rfl, by decide, fw_O, Or.inl (mT_1 (i := 83) rfl rfl)⟩
theorem fgO_19 : mx_fg mT mCl "MovedRegisters$Order" 19 3 2 := ⟨"MovedRegisters$Order", F_O, 3, rfl, by decide, fw_O, Or.inl (mT_1 (i := 84) rfl rfl)⟩
theorem fpO_19 : mx_fp mT mCl "MovedRegisters$Order" 19 3 2 (.int) := ⟨"MovedRegisters$Order", F_O, 3, t_O, rfl, by decide, fw_O, Or.inl (mT_1 (i := 84) rfl rfl), t_O_ok, n_O, rfl, by decide +kernel⟩
theorem lkA_35 : mx_lk mT "MovedRegisters" 35 jH_init.1 := Or.inr ⟨"MovedRegisters", (mT_1 (i := 95) rfl rfl)⟩
theorem fgH_11 : mx_fg mT mCl "MovedRegisters$Paths" 11 4 0 := ⟨"MovedRegisters$Paths", F_H, 2, rfl, by decide, fw_H, Or.inl (mT_1 (i := 101) rfl rfl)⟩
theorem fgL_64 : mx_fg mT mCl "MovedRegisters$Limits" 64 4 0 := ⟨"MovedRegisters$Paths", F_H, 2, rfl, by decide, fw_H, Or.inl (mT_1 (i := 102) rfl rfl)⟩
theorem fgA_139 : mx_fg mT mCl "MovedRegisters" 139 4 0 := ⟨"MovedRegisters$Paths", F_H, 2, rfl, by decide, fw_H, Or.inl (mT_1 (i := 103) rfl rfl)⟩
theorem fgH_16 : mx_fg mT mCl "MovedRegisters$Paths" 16 4 1 := ⟨"MovedRegisters$Paths", F_H, 2, rfl, by decide, fw_H, Or.inl (mT_1 (i := 104) rfl rfl)⟩
theorem fgL_59 : mx_fg mT mCl "MovedRegisters$Limits" 59 4 1 := ⟨"MovedRegisters$Paths", F_H, 2, rfl, by decide, fw_H, Or.inl (mT_1 (i := 105) rfl rfl)⟩
theorem fgA_143 : mx_fg mT mCl "MovedRegisters" 143 4 1 := ⟨"MovedRegisters$Paths", F_H, 2, rfl, by decide, fw_H, Or.inl (mT_1 (i := 106) rfl rfl)⟩
theorem lkA_42 : mx_lk mT "MovedRegisters" 42 jL_init.1 := Or.inr ⟨"MovedRegisters", (mT_1 (i := 114) rfl rfl)⟩
theorem fgL_9 : mx_fg mT mCl "MovedRegisters$Limits" 9 5 0 := ⟨"MovedRegisters$Limits", F_L, 2, rfl, by decide, fw_L, Or.inl (mT_1 (i := 119) rfl rfl)⟩
theorem fgA_196 : mx_fg mT mCl "MovedRegisters" 196 5 0 := ⟨"MovedRegisters$Limits", F_L, 2, rfl, by decide, fw_L, Or.inl (mT_1 (i := 120) rfl rfl)⟩
theorem fgL_17 : mx_fg mT mCl "MovedRegisters$Limits" 17 5 1 := ⟨"MovedRegisters$Limits", F_L, 2, rfl, by decide, fw_L, Or.inl (mT_1 (i := 121) rfl rfl)⟩
theorem lkA_49 : mx_lk mT "MovedRegisters" 49 jV_init.1 := Or.inr ⟨"MovedRegisters", (mT_1 (i := 129) rfl rfl)⟩
theorem fgV_9 : mx_fg mT mCl "MovedRegisters$Mover" 9 6 0 := ⟨"MovedRegisters$Mover", F_V, 1, rfl, by decide, fw_V, Or.inl (mT_1 (i := 133) rfl rfl)⟩
theorem lkA_56 : mx_lk mT "MovedRegisters" 56 jC_init.1 := Or.inr ⟨"MovedRegisters", (mT_1 (i := 139) rfl rfl)⟩
theorem lkC_11 : mx_lk mT "MovedRegisters$Clock" 11 jB_init.1 := Or.inr ⟨"MovedRegisters", (mT_1 (i := 144) rfl rfl)⟩
theorem fgC_12 : mx_fg mT mCl "MovedRegisters$Clock" 12 7 0 := ⟨"MovedRegisters$Clock", F_C, 2, rfl, by decide, fw_C, Or.inl (mT_1 (i := 145) rfl rfl)⟩
theorem fgC_18 : mx_fg mT mCl "MovedRegisters$Clock" 18 7 1 := ⟨"MovedRegisters$Clock", F_C, 2, rfl, by decide, fw_C, Or.inl (mT_1 (i := 146) rfl rfl)⟩
theorem fgA_12 : mx_fg mT mCl "MovedRegisters" 12 0 0 := ⟨"MovedRegisters", F_A, 9, rfl, by decide, fw_A, Or.inl (mT_1 (i := 152) rfl rfl)⟩
theorem fgA_19 : mx_fg mT mCl "MovedRegisters" 19 0 1 := ⟨"MovedRegisters", F_A, 9, rfl, by decide, fw_A, Or.inl (mT_1 (i := 153) rfl rfl)⟩
theorem fgA_23 : mx_fg mT mCl "MovedRegisters" 23 0 2 := ⟨"MovedRegisters", F_A, 9, rfl, by decide, fw_A, Or.inl (mT_1 (i := 154) rfl rfl)⟩
theorem fgA_29 : mx_fg mT mCl "MovedRegisters" 29 0 3 := ⟨"MovedRegisters", F_A, 9, rfl, by decide, fw_A, Or.inl (mT_1 (i := 155) rfl rfl)⟩
theorem fgA_36 : mx_fg mT mCl "MovedRegisters" 36 0 4 := ⟨"MovedRegisters", F_A, 9, rfl, by decide, fw_A, Or.inl (mT_1 (i := 156) rfl rfl)⟩
theorem fgA_43 : mx_fg mT mCl "MovedRegisters" 43 0 5 := ⟨"MovedRegisters", F_A, 9, rfl, by decide, fw_A, Or.inl (mT_1 (i := 157) rfl rfl)⟩
theorem fgA_50 : mx_fg mT mCl "MovedRegisters" 50 0 6 := ⟨"MovedRegisters", F_A, 9, rfl, by decide, fw_A, Or.inl (mT_1 (i := 158) rfl rfl)⟩
theorem fgA_57 : mx_fg mT mCl "MovedRegisters" 57 0 7 := ⟨"MovedRegisters", F_A, 9, rfl, by decide, fw_A, Or.inl (mT_1 (i := 159) rfl rfl)⟩
theorem fgA_61 : mx_fg mT mCl "MovedRegisters" 61 0 8 := ⟨"MovedRegisters", F_A, 9, rfl, by decide, fw_A, Or.inl (mT_1 (i := 160) rfl rfl)⟩
theorem lkA_121 : mx_lk mT "MovedRegisters" 121 jA_isSound.1 := Or.inl (mT_1 (i := 188) rfl rfl)
theorem lkA_181 : mx_lk mT "MovedRegisters" 181 jP_isComplete.1 := Or.inl (mT_1 (i := 192) rfl rfl)
theorem lkP_45 : mx_lk mT "MovedRegisters$Plan" 45 jP_hasAllPins.1 := Or.inl (mT_1 (i := 196) rfl rfl)
theorem lkP_36 : mx_lk mT "MovedRegisters$Plan" 36 jP_firstPin.1 := Or.inl (mT_1 (i := 200) rfl rfl)
theorem lkP_51 : mx_lk mT "MovedRegisters$Plan" 51 jP_endOfPins.1 := Or.inl (mT_1 (i := 204) rfl rfl)
theorem lkP_32 : mx_lk mT "MovedRegisters$Plan" 32 jP_pinsOf.1 := Or.inl (mT_1 (i := 208) rfl rfl)
theorem lkP_48 : mx_lk mT "MovedRegisters$Plan" 48 jP_isSource.1 := Or.inl (mT_1 (i := 212) rfl rfl)
theorem lkA_184 : mx_lk mT "MovedRegisters" 184 jO_arrange.1 := Or.inl (mT_1 (i := 216) rfl rfl)
theorem lkO_28 : mx_lk mT "MovedRegisters$Order" 28 jO_placeReady.1 := Or.inl (mT_1 (i := 220) rfl rfl)
theorem lkO_32 : mx_lk mT "MovedRegisters$Order" 32 jO_isReady.1 := Or.inl (mT_1 (i := 224) rfl rfl)
theorem lkO_36 : mx_lk mT "MovedRegisters$Order" 36 jP_firstPin.1 := Or.inl (mT_1 (i := 228) rfl rfl)
theorem lkO_40 : mx_lk mT "MovedRegisters$Order" 40 jP_endOfPins.1 := Or.inl (mT_1 (i := 229) rfl rfl)
theorem lkO_43 : mx_lk mT "MovedRegisters$Order" 43 jP_gateBehind.1 := Or.inl (mT_1 (i := 230) rfl rfl)
theorem lkO_46 : mx_lk mT "MovedRegisters$Order" 46 jB_length.1 := Or.inl (mT_1 (i := 237) rfl rfl)
theorem lkA_79 : mx_lk mT "MovedRegisters" 79 jC_begin.1 := Or.inl (mT_2 (i := 5) rfl rfl)
theorem lkC_22 : mx_lk mT "MovedRegisters$Clock" 22 jB_copy.1 := Or.inl (mT_2 (i := 9) rfl rfl)
theorem lkA_75 : mx_lk mT "MovedRegisters" 75 jP_addGate.1 := Or.inl (mT_2 (i := 104) rfl rfl)
theorem lkA_83 : mx_lk mT "MovedRegisters" 83 jP_hasEnd.1 := Or.inl (mT_2 (i := 116) rfl rfl)
theorem lkP_25 : mx_lk mT "MovedRegisters$Plan" 25 jP_hasGate.1 := Or.inl (mT_2 (i := 120) rfl rfl)
theorem lkP_29 : mx_lk mT "MovedRegisters$Plan" 29 jP_isPort.1 := Or.inl (mT_2 (i := 124) rfl rfl)
theorem lkA_90 : mx_lk mT "MovedRegisters" 90 jP_placeOf.1 := Or.inl (mT_2 (i := 142) rfl rfl)
theorem lkA_97 : mx_lk mT "MovedRegisters" 97 jB_fill.1 := Or.inl (mT_2 (i := 146) rfl rfl)
theorem lkB_23 : mx_lk mT "MovedRegisters$Bank" 23 jB_putAtSource.1 := Or.inl (mT_2 (i := 150) rfl rfl)
theorem lkB_31 : mx_lk mT "MovedRegisters$Bank" 31 jB_write.1 := Or.inl (mT_2 (i := 154) rfl rfl)
theorem lkA_100 : mx_lk mT "MovedRegisters" 100 jA_registerWire.1 := Or.inl (mT_2 (i := 167) rfl rfl)
theorem lkA_114 : mx_lk mT "MovedRegisters" 114 jA_wireTo.1 := Or.inl (mT_2 (i := 171) rfl rfl)
theorem lkA_117 : mx_lk mT "MovedRegisters" 117 jB_length.1 := Or.inl (mT_2 (i := 175) rfl rfl)
theorem lkA_104 : mx_lk mT "MovedRegisters" 104 jA_isValue.1 := Or.inl (mT_2 (i := 176) rfl rfl)
theorem lkA_107 : mx_lk mT "MovedRegisters" 107 jB_write.1 := Or.inl (mT_2 (i := 179) rfl rfl)
theorem lkA_111 : mx_lk mT "MovedRegisters" 111 jB_read.1 := Or.inl (mT_2 (i := 187) rfl rfl)
theorem lkA_125 : mx_lk mT "MovedRegisters" 125 jA_needSound.1 := Or.inl (mT_2 (i := 206) rfl rfl)
theorem lkA_128 : mx_lk mT "MovedRegisters" 128 jH_measure.1 := Or.inl (mT_2 (i := 225) rfl rfl)
theorem lkH_29 : mx_lk mT "MovedRegisters$Paths" 29 jH_offer.1 := Or.inl (mT_2 (i := 229) rfl rfl)
theorem lkH_33 : mx_lk mT "MovedRegisters$Paths" 33 jH_offerWire.1 := Or.inl (mT_2 (i := 233) rfl rfl)
theorem lkH_47 : mx_lk mT "MovedRegisters$Paths" 47 jP_gateBehind.1 := Or.inl (mT_2 (i := 237) rfl rfl)
theorem lkH_51 : mx_lk mT "MovedRegisters$Paths" 51 jP_gateBefore.1 := Or.inl (mT_2 (i := 238) rfl rfl)
theorem lkH_54 : mx_lk mT "MovedRegisters$Paths" 54 jB_length.1 := Or.inl (mT_3 (i := 2) rfl rfl)
theorem lkH_37 : mx_lk mT "MovedRegisters$Paths" 37 jH_offerOver.1 := Or.inl (mT_3 (i := 3) rfl rfl)
theorem lkA_132 : mx_lk mT "MovedRegisters" 132 jH_longestUnregistered.1 := Or.inl (mT_3 (i := 7) rfl rfl)
theorem lkA_135 : mx_lk mT "MovedRegisters" 135 jA_needGate.1 := Or.inl (mT_3 (i := 19) rfl rfl)
theorem lkA_175 : mx_lk mT "MovedRegisters" 175 jP_hasGate.1 := Or.inl (mT_3 (i := 23) rfl rfl)
theorem lkA_146 : mx_lk mT "MovedRegisters" 146 jL_set.1 := Or.inl (mT_3 (i := 38) rfl rfl)
theorem lkL_29 : mx_lk mT "MovedRegisters$Limits" 29 jP_gateBehind.1 := Or.inl (mT_3 (i := 42) rfl rfl)
theorem lkL_33 : mx_lk mT "MovedRegisters$Limits" 33 jP_gateBefore.1 := Or.inl (mT_3 (i := 43) rfl rfl)
theorem lkL_36 : mx_lk mT "MovedRegisters$Limits" 36 jB_length.1 := Or.inl (mT_3 (i := 44) rfl rfl)
theorem lkL_41 : mx_lk mT "MovedRegisters$Limits" 41 jL_limitWire.1 := Or.inl (mT_3 (i := 45) rfl rfl)
theorem lkL_56 : mx_lk mT "MovedRegisters$Limits" 56 jL_limit.1 := Or.inl (mT_3 (i := 49) rfl rfl)
theorem lkL_45 : mx_lk mT "MovedRegisters$Limits" 45 jL_limitPaths.1 := Or.inl (mT_3 (i := 56) rfl rfl)
theorem lkA_150 : mx_lk mT "MovedRegisters" 150 jL_solve.1 := Or.inl (mT_3 (i := 60) rfl rfl)
theorem lkL_49 : mx_lk mT "MovedRegisters$Limits" 49 jL_lowerAll.1 := Or.inl (mT_3 (i := 64) rfl rfl)
theorem lkL_53 : mx_lk mT "MovedRegisters$Limits" 53 jL_areAllowed.1 := Or.inl (mT_3 (i := 68) rfl rfl)
theorem lkA_154 : mx_lk mT "MovedRegisters" 154 jA_mostFrom.1 := Or.inl (mT_3 (i := 79) rfl rfl)
theorem lkA_157 : mx_lk mT "MovedRegisters" 157 jA_moveUpTo.1 := Or.inl (mT_3 (i := 91) rfl rfl)
theorem lkA_193 : mx_lk mT "MovedRegisters" 193 jB_copy.1 := Or.inl (mT_3 (i := 95) rfl rfl)
theorem lkA_199 : mx_lk mT "MovedRegisters" 199 jV_follow.1 := Or.inl (mT_3 (i := 96) rfl rfl)
theorem lkV_27 : mx_lk mT "MovedRegisters$Mover" 27 jV_isDone.1 := Or.inl (mT_3 (i := 101) rfl rfl)
theorem lkV_31 : mx_lk mT "MovedRegisters$Mover" 31 jV_moveEach.1 := Or.inl (mT_3 (i := 105) rfl rfl)
theorem lkV_35 : mx_lk mT "MovedRegisters$Mover" 35 jV_canForward.1 := Or.inl (mT_3 (i := 109) rfl rfl)
theorem lkV_49 : mx_lk mT "MovedRegisters$Mover" 49 jP_firstPin.1 := Or.inl (mT_3 (i := 113) rfl rfl)
theorem lkV_53 : mx_lk mT "MovedRegisters$Mover" 53 jP_endOfPins.1 := Or.inl (mT_3 (i := 114) rfl rfl)
theorem lkV_56 : mx_lk mT "MovedRegisters$Mover" 56 jB_length.1 := Or.inl (mT_3 (i := 115) rfl rfl)
theorem lkV_39 : mx_lk mT "MovedRegisters$Mover" 39 jV_forward.1 := Or.inl (mT_3 (i := 116) rfl rfl)
theorem lkV_64 : mx_lk mT "MovedRegisters$Mover" 64 jB_takeAtSink.1 := Or.inl (mT_3 (i := 120) rfl rfl)
theorem lkB_27 : mx_lk mT "MovedRegisters$Bank" 27 jB_read.1 := Or.inl (mT_3 (i := 124) rfl rfl)
theorem lkV_67 : mx_lk mT "MovedRegisters$Mover" 67 jP_pinsOf.1 := Or.inl (mT_3 (i := 125) rfl rfl)
theorem lkV_73 : mx_lk mT "MovedRegisters$Mover" 73 jG_made.1 := Or.inl (mT_3 (i := 126) rfl rfl)
theorem lkG_9 : mx_lk mT "MovedRegisters$Logic" 9 jG_opposite.1 := Or.inl (mT_3 (i := 129) rfl rfl)
theorem lkG_15 : mx_lk mT "MovedRegisters$Logic" 15 jG_ruled.1 := Or.inl (mT_3 (i := 132) rfl rfl)
theorem lkV_79 : mx_lk mT "MovedRegisters$Mover" 79 jB_putAtSource.1 := Or.inl (mT_3 (i := 135) rfl rfl)
theorem lkV_43 : mx_lk mT "MovedRegisters$Mover" 43 jV_canBackward.1 := Or.inl (mT_3 (i := 136) rfl rfl)
theorem lkV_46 : mx_lk mT "MovedRegisters$Mover" 46 jV_backward.1 := Or.inl (mT_3 (i := 140) rfl rfl)
theorem lkV_83 : mx_lk mT "MovedRegisters$Mover" 83 jB_takeAtSource.1 := Or.inl (mT_3 (i := 144) rfl rfl)
theorem lkV_86 : mx_lk mT "MovedRegisters$Mover" 86 jV_joined.1 := Or.inl (mT_3 (i := 148) rfl rfl)
theorem lkV_90 : mx_lk mT "MovedRegisters$Mover" 90 jG_needed.1 := Or.inl (mT_3 (i := 151) rfl rfl)
theorem lkV_93 : mx_lk mT "MovedRegisters$Mover" 93 jB_putAtSink.1 := Or.inl (mT_3 (i := 154) rfl rfl)
theorem lkA_160 : mx_lk mT "MovedRegisters" 160 jC_setInputs.1 := Or.inl (mT_3 (i := 173) rfl rfl)
theorem lkA_163 : mx_lk mT "MovedRegisters" 163 jC_settle.1 := Or.inl (mT_3 (i := 177) rfl rfl)
theorem lkC_37 : mx_lk mT "MovedRegisters$Clock" 37 jP_firstPin.1 := Or.inl (mT_3 (i := 181) rfl rfl)
theorem lkC_41 : mx_lk mT "MovedRegisters$Clock" 41 jC_valueOf.1 := Or.inl (mT_3 (i := 182) rfl rfl)
theorem lkC_60 : mx_lk mT "MovedRegisters$Clock" 60 jB_length.1 := Or.inl (mT_3 (i := 186) rfl rfl)
theorem lkC_70 : mx_lk mT "MovedRegisters$Clock" 70 jB_read.1 := Or.inl (mT_3 (i := 187) rfl rfl)
theorem lkC_45 : mx_lk mT "MovedRegisters$Clock" 45 jP_pinsOf.1 := Or.inl (mT_3 (i := 188) rfl rfl)
theorem lkC_51 : mx_lk mT "MovedRegisters$Clock" 51 jG_made.1 := Or.inl (mT_3 (i := 189) rfl rfl)
theorem lkA_167 : mx_lk mT "MovedRegisters" 167 jC_outputs.1 := Or.inl (mT_3 (i := 190) rfl rfl)
theorem lkA_171 : mx_lk mT "MovedRegisters" 171 jC_shift.1 := Or.inl (mT_3 (i := 194) rfl rfl)
theorem lkC_63 : mx_lk mT "MovedRegisters$Clock" 63 jB_takeAtSink.1 := Or.inl (mT_3 (i := 198) rfl rfl)
theorem lkC_66 : mx_lk mT "MovedRegisters$Clock" 66 jB_putAtSource.1 := Or.inl (mT_3 (i := 199) rfl rfl)
theorem fgM_49 : mx_fg mT mCl "MovedRegistersModel" 49 8 0 := ⟨"MovedRegistersModel", F_M, 15, rfl, by decide, fw_M, Or.inl (mT_3 (i := 206) rfl rfl)⟩
theorem fpM_49 : mx_fp mT mCl "MovedRegistersModel" 49 8 0 (.int) := ⟨"MovedRegistersModel", F_M, 15, t_M, rfl, by decide, fw_M, Or.inl (mT_3 (i := 206) rfl rfl), t_M_ok, n_M, rfl, by decide +kernel⟩
theorem fgM_53 : mx_fg mT mCl "MovedRegistersModel" 53 8 1 := ⟨"MovedRegistersModel", F_M, 15, rfl, by decide, fw_M, Or.inl (mT_3 (i := 207) rfl rfl)⟩
theorem fpM_53 : mx_fp mT mCl "MovedRegistersModel" 53 8 1 (.int) := ⟨"MovedRegistersModel", F_M, 15, t_M, rfl, by decide, fw_M, Or.inl (mT_3 (i := 207) rfl rfl), t_M_ok, n_M, rfl, by decide +kernel⟩
theorem fgM_7 : mx_fg mT mCl "MovedRegistersModel" 7 8 2 := ⟨"MovedRegistersModel", F_M, 15, rfl, by decide, fw_M, Or.inl (mT_3 (i := 208) rfl rfl)⟩
theorem fgM_13 : mx_fg mT mCl "MovedRegistersModel" 13 8 3 := ⟨"MovedRegistersModel", F_M, 15, rfl, by decide, fw_M, Or.inl (mT_3 (i := 209) rfl rfl)⟩
theorem fgM_16 : mx_fg mT mCl "MovedRegistersModel" 16 8 4 := ⟨"MovedRegistersModel", F_M, 15, rfl, by decide, fw_M, Or.inl (mT_3 (i := 210) rfl rfl)⟩
theorem fgM_19 : mx_fg mT mCl "MovedRegistersModel" 19 8 5 := ⟨"MovedRegistersModel", F_M, 15, rfl, by decide, fw_M, Or.inl (mT_3 (i := 211) rfl rfl)⟩
theorem fgM_22 : mx_fg mT mCl "MovedRegistersModel" 22 8 6 := ⟨"MovedRegistersModel", F_M, 15, rfl, by decide, fw_M, Or.inl (mT_3 (i := 212) rfl rfl)⟩
theorem fgM_25 : mx_fg mT mCl "MovedRegistersModel" 25 8 7 := ⟨"MovedRegistersModel", F_M, 15, rfl, by decide, fw_M, Or.inl (mT_3 (i := 213) rfl rfl)⟩
theorem fgM_28 : mx_fg mT mCl "MovedRegistersModel" 28 8 8 := ⟨"MovedRegistersModel", F_M, 15, rfl, by decide, fw_M, Or.inl (mT_3 (i := 214) rfl rfl)⟩
theorem fgM_31 : mx_fg mT mCl "MovedRegistersModel" 31 8 9 := ⟨"MovedRegistersModel", F_M, 15, rfl, by decide, fw_M, Or.inl (mT_3 (i := 215) rfl rfl)⟩
theorem fgM_34 : mx_fg mT mCl "MovedRegistersModel" 34 8 10 := ⟨"MovedRegistersModel", F_M, 15, rfl, by decide, fw_M, Or.inl (mT_3 (i := 216) rfl rfl)⟩
theorem fgM_37 : mx_fg mT mCl "MovedRegistersModel" 37 8 11 := ⟨"MovedRegistersModel", F_M, 15, rfl, by decide, fw_M, Or.inl (mT_3 (i := 217) rfl rfl)⟩
theorem fgM_40 : mx_fg mT mCl "MovedRegistersModel" 40 8 12 := ⟨"MovedRegistersModel", F_M, 15, rfl, by decide, fw_M, Or.inl (mT_3 (i := 218) rfl rfl)⟩
theorem fgM_43 : mx_fg mT mCl "MovedRegistersModel" 43 8 13 := ⟨"MovedRegistersModel", F_M, 15, rfl, by decide, fw_M, Or.inl (mT_3 (i := 219) rfl rfl)⟩
theorem fgM_46 : mx_fg mT mCl "MovedRegistersModel" 46 8 14 := ⟨"MovedRegistersModel", F_M, 15, rfl, by decide, fw_M, Or.inl (mT_3 (i := 220) rfl rfl)⟩
theorem lkM_67 : mx_lk mT "MovedRegistersModel" 67 jM_begin.1 := Or.inl (mT_4 (i := 20) rfl rfl)
theorem lkM_60 : mx_lk mT "MovedRegistersModel" 60 jM_isGate.1 := Or.inl (mT_4 (i := 28) rfl rfl)
theorem lkM_56 : mx_lk mT "MovedRegistersModel" 56 jM_isOuter.1 := Or.inl (mT_4 (i := 32) rfl rfl)
theorem lkM_70 : mx_lk mT "MovedRegistersModel" 70 jM_place.1 := Or.inl (mT_4 (i := 35) rfl rfl)
theorem lkM_63 : mx_lk mT "MovedRegistersModel" 63 jM_pins.1 := Or.inl (mT_4 (i := 39) rfl rfl)
theorem lkM_77 : mx_lk mT "MovedRegistersModel" 77 jM_isRegister.1 := Or.inl (mT_4 (i := 47) rfl rfl)
theorem lkM_74 : mx_lk mT "MovedRegistersModel" 74 jM_isWire.1 := Or.inl (mT_4 (i := 51) rfl rfl)
theorem lkM_92 : mx_lk mT "MovedRegistersModel" 92 jM_isSound.1 := Or.inl (mT_4 (i := 71) rfl rfl)
theorem lkM_88 : mx_lk mT "MovedRegistersModel" 88 jM_looped.1 := Or.inl (mT_4 (i := 75) rfl rfl)
theorem lkM_95 : mx_lk mT "MovedRegistersModel" 95 jM_measure.1 := Or.inl (mT_4 (i := 83) rfl rfl)
theorem lkM_82 : mx_lk mT "MovedRegistersModel" 82 jM_sinkOf.1 := Or.inl (mT_4 (i := 88) rfl rfl)
theorem lkM_85 : mx_lk mT "MovedRegistersModel" 85 jM_weightOf.1 := Or.inl (mT_4 (i := 91) rfl rfl)
theorem lkM_98 : mx_lk mT "MovedRegistersModel" 98 jM_delayOf.1 := Or.inl (mT_4 (i := 95) rfl rfl)
theorem lkM_110 : mx_lk mT "MovedRegistersModel" 110 jM_find.1 := Or.inl (mT_4 (i := 111) rfl rfl)
theorem lkM_107 : mx_lk mT "MovedRegistersModel" 107 jM_lowerAll.1 := Or.inl (mT_4 (i := 115) rfl rfl)
theorem lkM_101 : mx_lk mT "MovedRegistersModel" 101 jM_labelOf.1 := Or.inl (mT_4 (i := 119) rfl rfl)
theorem lkM_104 : mx_lk mT "MovedRegistersModel" 104 jM_lower.1 := Or.inl (mT_4 (i := 123) rfl rfl)
theorem lkM_137 : mx_lk mT "MovedRegistersModel" 137 jM_follow.1 := Or.inl (mT_4 (i := 135) rfl rfl)
theorem lkM_124 : mx_lk mT "MovedRegistersModel" 124 jM_canForward.1 := Or.inl (mT_4 (i := 139) rfl rfl)
theorem lkM_127 : mx_lk mT "MovedRegistersModel" 127 jM_forward.1 := Or.inl (mT_4 (i := 143) rfl rfl)
theorem lkM_113 : mx_lk mT "MovedRegistersModel" 113 jM_pull.1 := Or.inl (mT_4 (i := 147) rfl rfl)
theorem lkM_116 : mx_lk mT "MovedRegistersModel" 116 jM_made.1 := Or.inl (mT_4 (i := 151) rfl rfl)
theorem lkM_131 : mx_lk mT "MovedRegistersModel" 131 jM_canBackward.1 := Or.inl (mT_4 (i := 154) rfl rfl)
theorem lkM_134 : mx_lk mT "MovedRegistersModel" 134 jM_backward.1 := Or.inl (mT_4 (i := 158) rfl rfl)
theorem lkM_120 : mx_lk mT "MovedRegistersModel" 120 jM_push.1 := Or.inl (mT_4 (i := 162) rfl rfl)
theorem lkM_140 : mx_lk mT "MovedRegistersModel" 140 jM_input.1 := Or.inl (mT_4 (i := 174) rfl rfl)
end
section
/-! Decode rows, laid by program. -/
theorem dA_gate_0 : decode prog_1_method_2_code 0 = .ok (.iload_n 1, 1) := by decide +kernel
theorem dA_gate_1 : decode prog_1_method_2_code 1 = .ok (.ifCond .lt (18), 3) := by decide +kernel
theorem dA_gate_4 : decode prog_1_method_2_code 4 = .ok (.iload_n 1, 1) := by decide +kernel
theorem dA_gate_5 : decode prog_1_method_2_code 5 = .ok (.iconst 4, 1) := by decide +kernel
theorem dA_gate_6 : decode prog_1_method_2_code 6 = .ok (.if_icmp .gt (13), 3) := by decide +kernel
theorem dA_gate_9 : decode prog_1_method_2_code 9 = .ok (.iload_n 2, 1) := by decide +kernel
theorem dA_gate_10 : decode prog_1_method_2_code 10 = .ok (.ifCond .lt (9), 3) := by decide +kernel
theorem dA_gate_13 : decode prog_1_method_2_code 13 = .ok (.iload_n 2, 1) := by decide +kernel
theorem dA_gate_14 : decode prog_1_method_2_code 14 = .ok (.bipush (50), 2) := by decide +kernel
theorem dA_gate_16 : decode prog_1_method_2_code 16 = .ok (.if_icmp .le (11), 3) := by decide +kernel
theorem dA_gate_19 : decode prog_1_method_2_code 19 = .ok (.new 65, 3) := by decide +kernel
theorem dA_gate_22 : decode prog_1_method_2_code 22 = .ok (.dup, 1) := by decide +kernel
theorem dA_gate_23 : decode prog_1_method_2_code 23 = .ok (.invokespecial 67, 3) := by decide +kernel
theorem dA_gate_26 : decode prog_1_method_2_code 26 = .ok (.athrow, 1) := by decide +kernel
theorem dA_gate_27 : decode prog_1_method_2_code 27 = .ok (.aload_n 0, 1) := by decide +kernel
theorem dA_gate_28 : decode prog_1_method_2_code 28 = .ok (.getfield 12, 3) := by decide +kernel
theorem dA_gate_31 : decode prog_1_method_2_code 31 = .ok (.getfield 68, 3) := by decide +kernel
theorem dA_gate_34 : decode prog_1_method_2_code 34 = .ok (.bipush (12), 2) := by decide +kernel
theorem dA_gate_36 : decode prog_1_method_2_code 36 = .ok (.if_icmp .lt (11), 3) := by decide +kernel
theorem dA_gate_39 : decode prog_1_method_2_code 39 = .ok (.new 72, 3) := by decide +kernel
theorem dA_gate_42 : decode prog_1_method_2_code 42 = .ok (.dup, 1) := by decide +kernel
theorem dA_gate_43 : decode prog_1_method_2_code 43 = .ok (.invokespecial 74, 3) := by decide +kernel
theorem dA_gate_46 : decode prog_1_method_2_code 46 = .ok (.athrow, 1) := by decide +kernel
theorem dA_gate_47 : decode prog_1_method_2_code 47 = .ok (.aload_n 0, 1) := by decide +kernel
theorem dA_gate_48 : decode prog_1_method_2_code 48 = .ok (.getfield 12, 3) := by decide +kernel
theorem dA_gate_51 : decode prog_1_method_2_code 51 = .ok (.iload_n 1, 1) := by decide +kernel
theorem dA_gate_52 : decode prog_1_method_2_code 52 = .ok (.iload_n 2, 1) := by decide +kernel
theorem dA_gate_53 : decode prog_1_method_2_code 53 = .ok (.invokevirtual 75, 3) := by decide +kernel
theorem dA_gate_56 : decode prog_1_method_2_code 56 = .ok (.aload_n 0, 1) := by decide +kernel
theorem dA_gate_57 : decode prog_1_method_2_code 57 = .ok (.getfield 57, 3) := by decide +kernel
theorem dA_gate_60 : decode prog_1_method_2_code 60 = .ok (.aload_n 0, 1) := by decide +kernel
theorem dA_gate_61 : decode prog_1_method_2_code 61 = .ok (.getfield 19, 3) := by decide +kernel
theorem dA_gate_64 : decode prog_1_method_2_code 64 = .ok (.invokevirtual 79, 3) := by decide +kernel
theorem dA_gate_67 : decode prog_1_method_2_code 67 = .ok (.aload_n 0, 1) := by decide +kernel
theorem dA_gate_68 : decode prog_1_method_2_code 68 = .ok (.getfield 12, 3) := by decide +kernel
theorem dA_gate_71 : decode prog_1_method_2_code 71 = .ok (.getfield 68, 3) := by decide +kernel
theorem dA_gate_74 : decode prog_1_method_2_code 74 = .ok (.ireturn, 1) := by decide +kernel
theorem dA_wire_0 : decode prog_1_method_3_code 0 = .ok (.aload_n 0, 1) := by decide +kernel
theorem dA_wire_1 : decode prog_1_method_3_code 1 = .ok (.getfield 12, 3) := by decide +kernel
theorem dA_wire_4 : decode prog_1_method_3_code 4 = .ok (.iload_n 1, 1) := by decide +kernel
theorem dA_wire_5 : decode prog_1_method_3_code 5 = .ok (.invokevirtual 83, 3) := by decide +kernel
theorem dA_wire_8 : decode prog_1_method_3_code 8 = .ok (.ifCond .eq (14), 3) := by decide +kernel
theorem dA_wire_11 : decode prog_1_method_3_code 11 = .ok (.aload_n 0, 1) := by decide +kernel
theorem dA_wire_12 : decode prog_1_method_3_code 12 = .ok (.getfield 12, 3) := by decide +kernel
theorem dA_wire_15 : decode prog_1_method_3_code 15 = .ok (.iload_n 2, 1) := by decide +kernel
theorem dA_wire_16 : decode prog_1_method_3_code 16 = .ok (.invokevirtual 83, 3) := by decide +kernel
theorem dA_wire_19 : decode prog_1_method_3_code 19 = .ok (.ifCond .ne (11), 3) := by decide +kernel
theorem dA_wire_22 : decode prog_1_method_3_code 22 = .ok (.new 87, 3) := by decide +kernel
theorem dA_wire_25 : decode prog_1_method_3_code 25 = .ok (.dup, 1) := by decide +kernel
theorem dA_wire_26 : decode prog_1_method_3_code 26 = .ok (.invokespecial 89, 3) := by decide +kernel
theorem dA_wire_29 : decode prog_1_method_3_code 29 = .ok (.athrow, 1) := by decide +kernel
theorem dA_wire_30 : decode prog_1_method_3_code 30 = .ok (.aload_n 0, 1) := by decide +kernel
theorem dA_wire_31 : decode prog_1_method_3_code 31 = .ok (.getfield 12, 3) := by decide +kernel
theorem dA_wire_34 : decode prog_1_method_3_code 34 = .ok (.iload_n 2, 1) := by decide +kernel
theorem dA_wire_35 : decode prog_1_method_3_code 35 = .ok (.iload_n 3, 1) := by decide +kernel
theorem dA_wire_36 : decode prog_1_method_3_code 36 = .ok (.invokevirtual 90, 3) := by decide +kernel
theorem dA_wire_39 : decode prog_1_method_3_code 39 = .ok (.istore 5, 2) := by decide +kernel
theorem dA_wire_41 : decode prog_1_method_3_code 41 = .ok (.iload 5, 2) := by decide +kernel
theorem dA_wire_43 : decode prog_1_method_3_code 43 = .ok (.iconst (-1), 1) := by decide +kernel
theorem dA_wire_44 : decode prog_1_method_3_code 44 = .ok (.if_icmp .eq (14), 3) := by decide +kernel
theorem dA_wire_47 : decode prog_1_method_3_code 47 = .ok (.iload 4, 2) := by decide +kernel
theorem dA_wire_49 : decode prog_1_method_3_code 49 = .ok (.ifCond .lt (9), 3) := by decide +kernel
theorem dA_wire_52 : decode prog_1_method_3_code 52 = .ok (.iload 4, 2) := by decide +kernel
theorem dA_wire_54 : decode prog_1_method_3_code 54 = .ok (.iconst 4, 1) := by decide +kernel
theorem dA_wire_55 : decode prog_1_method_3_code 55 = .ok (.if_icmp .le (11), 3) := by decide +kernel
theorem dA_wire_58 : decode prog_1_method_3_code 58 = .ok (.new 65, 3) := by decide +kernel
theorem dA_wire_61 : decode prog_1_method_3_code 61 = .ok (.dup, 1) := by decide +kernel
theorem dA_wire_62 : decode prog_1_method_3_code 62 = .ok (.invokespecial 67, 3) := by decide +kernel
theorem dA_wire_65 : decode prog_1_method_3_code 65 = .ok (.athrow, 1) := by decide +kernel
theorem dA_wire_66 : decode prog_1_method_3_code 66 = .ok (.aload_n 0, 1) := by decide +kernel
theorem dA_wire_67 : decode prog_1_method_3_code 67 = .ok (.getfield 12, 3) := by decide +kernel
theorem dA_wire_70 : decode prog_1_method_3_code 70 = .ok (.getfield 94, 3) := by decide +kernel
theorem dA_wire_73 : decode prog_1_method_3_code 73 = .ok (.iload 5, 2) := by decide +kernel
theorem dA_wire_75 : decode prog_1_method_3_code 75 = .ok (.iload_n 1, 1) := by decide +kernel
theorem dA_wire_76 : decode prog_1_method_3_code 76 = .ok (.iastore, 1) := by decide +kernel
theorem dA_wire_77 : decode prog_1_method_3_code 77 = .ok (.aload_n 0, 1) := by decide +kernel
theorem dA_wire_78 : decode prog_1_method_3_code 78 = .ok (.getfield 19, 3) := by decide +kernel
theorem dA_wire_81 : decode prog_1_method_3_code 81 = .ok (.iload 5, 2) := by decide +kernel
theorem dA_wire_83 : decode prog_1_method_3_code 83 = .ok (.iload 4, 2) := by decide +kernel
theorem dA_wire_85 : decode prog_1_method_3_code 85 = .ok (.invokevirtual 97, 3) := by decide +kernel
theorem dA_wire_88 : decode prog_1_method_3_code 88 = .ok (.aload_n 0, 1) := by decide +kernel
theorem dA_wire_89 : decode prog_1_method_3_code 89 = .ok (.getfield 57, 3) := by decide +kernel
theorem dA_wire_92 : decode prog_1_method_3_code 92 = .ok (.aload_n 0, 1) := by decide +kernel
theorem dA_wire_93 : decode prog_1_method_3_code 93 = .ok (.getfield 19, 3) := by decide +kernel
theorem dA_wire_96 : decode prog_1_method_3_code 96 = .ok (.invokevirtual 79, 3) := by decide +kernel
theorem dA_wire_99 : decode prog_1_method_3_code 99 = .ok (.return_, 1) := by decide +kernel
theorem dA_hold_0 : decode prog_1_method_4_code 0 = .ok (.aload_n 0, 1) := by decide +kernel
theorem dA_hold_1 : decode prog_1_method_4_code 1 = .ok (.iload_n 1, 1) := by decide +kernel
theorem dA_hold_2 : decode prog_1_method_4_code 2 = .ok (.iload_n 2, 1) := by decide +kernel
theorem dA_hold_3 : decode prog_1_method_4_code 3 = .ok (.iload_n 3, 1) := by decide +kernel
theorem dA_hold_4 : decode prog_1_method_4_code 4 = .ok (.invokevirtual 100, 3) := by decide +kernel
theorem dA_hold_7 : decode prog_1_method_4_code 7 = .ok (.istore 5, 2) := by decide +kernel
theorem dA_hold_9 : decode prog_1_method_4_code 9 = .ok (.iload 4, 2) := by decide +kernel
theorem dA_hold_11 : decode prog_1_method_4_code 11 = .ok (.invokestatic 104, 3) := by decide +kernel
theorem dA_hold_14 : decode prog_1_method_4_code 14 = .ok (.ifCond .ne (11), 3) := by decide +kernel
theorem dA_hold_17 : decode prog_1_method_4_code 17 = .ok (.new 65, 3) := by decide +kernel
theorem dA_hold_20 : decode prog_1_method_4_code 20 = .ok (.dup, 1) := by decide +kernel
theorem dA_hold_21 : decode prog_1_method_4_code 21 = .ok (.invokespecial 67, 3) := by decide +kernel
theorem dA_hold_24 : decode prog_1_method_4_code 24 = .ok (.athrow, 1) := by decide +kernel
theorem dA_hold_25 : decode prog_1_method_4_code 25 = .ok (.aload_n 0, 1) := by decide +kernel
theorem dA_hold_26 : decode prog_1_method_4_code 26 = .ok (.getfield 19, 3) := by decide +kernel
theorem dA_hold_29 : decode prog_1_method_4_code 29 = .ok (.iload 5, 2) := by decide +kernel
theorem dA_hold_31 : decode prog_1_method_4_code 31 = .ok (.iload_n 3, 1) := by decide +kernel
theorem dA_hold_32 : decode prog_1_method_4_code 32 = .ok (.iload 4, 2) := by decide +kernel
theorem dA_hold_34 : decode prog_1_method_4_code 34 = .ok (.invokevirtual 107, 3) := by decide +kernel
theorem dA_hold_37 : decode prog_1_method_4_code 37 = .ok (.aload_n 0, 1) := by decide +kernel
theorem dA_hold_38 : decode prog_1_method_4_code 38 = .ok (.getfield 57, 3) := by decide +kernel
theorem dA_hold_41 : decode prog_1_method_4_code 41 = .ok (.aload_n 0, 1) := by decide +kernel
theorem dA_hold_42 : decode prog_1_method_4_code 42 = .ok (.getfield 19, 3) := by decide +kernel
theorem dA_hold_45 : decode prog_1_method_4_code 45 = .ok (.invokevirtual 79, 3) := by decide +kernel
theorem dA_hold_48 : decode prog_1_method_4_code 48 = .ok (.return_, 1) := by decide +kernel
theorem dA_held_0 : decode prog_1_method_5_code 0 = .ok (.aload_n 0, 1) := by decide +kernel
theorem dA_held_1 : decode prog_1_method_5_code 1 = .ok (.getfield 19, 3) := by decide +kernel
theorem dA_held_4 : decode prog_1_method_5_code 4 = .ok (.aload_n 0, 1) := by decide +kernel
theorem dA_held_5 : decode prog_1_method_5_code 5 = .ok (.iload_n 1, 1) := by decide +kernel
theorem dA_held_6 : decode prog_1_method_5_code 6 = .ok (.iload_n 2, 1) := by decide +kernel
theorem dA_held_7 : decode prog_1_method_5_code 7 = .ok (.iload_n 3, 1) := by decide +kernel
theorem dA_held_8 : decode prog_1_method_5_code 8 = .ok (.invokevirtual 100, 3) := by decide +kernel
theorem dA_held_11 : decode prog_1_method_5_code 11 = .ok (.iload_n 3, 1) := by decide +kernel
theorem dA_held_12 : decode prog_1_method_5_code 12 = .ok (.invokevirtual 111, 3) := by decide +kernel
theorem dA_held_15 : decode prog_1_method_5_code 15 = .ok (.ireturn, 1) := by decide +kernel
theorem dA_registers_0 : decode prog_1_method_6_code 0 = .ok (.aload_n 0, 1) := by decide +kernel
theorem dA_registers_1 : decode prog_1_method_6_code 1 = .ok (.getfield 19, 3) := by decide +kernel
theorem dA_registers_4 : decode prog_1_method_6_code 4 = .ok (.aload_n 0, 1) := by decide +kernel
theorem dA_registers_5 : decode prog_1_method_6_code 5 = .ok (.iload_n 1, 1) := by decide +kernel
theorem dA_registers_6 : decode prog_1_method_6_code 6 = .ok (.iload_n 2, 1) := by decide +kernel
theorem dA_registers_7 : decode prog_1_method_6_code 7 = .ok (.invokevirtual 114, 3) := by decide +kernel
theorem dA_registers_10 : decode prog_1_method_6_code 10 = .ok (.invokevirtual 117, 3) := by decide +kernel
theorem dA_registers_13 : decode prog_1_method_6_code 13 = .ok (.ireturn, 1) := by decide +kernel
theorem dA_gates_0 : decode prog_1_method_7_code 0 = .ok (.aload_n 0, 1) := by decide +kernel
theorem dA_gates_1 : decode prog_1_method_7_code 1 = .ok (.getfield 12, 3) := by decide +kernel
theorem dA_gates_4 : decode prog_1_method_7_code 4 = .ok (.getfield 68, 3) := by decide +kernel
theorem dA_gates_7 : decode prog_1_method_7_code 7 = .ok (.ireturn, 1) := by decide +kernel
theorem dA_sound_0 : decode prog_1_method_8_code 0 = .ok (.aload_n 0, 1) := by decide +kernel
theorem dA_sound_1 : decode prog_1_method_8_code 1 = .ok (.invokevirtual 121, 3) := by decide +kernel
theorem dA_sound_4 : decode prog_1_method_8_code 4 = .ok (.ireturn, 1) := by decide +kernel
theorem dA_period_0 : decode prog_1_method_9_code 0 = .ok (.aload_n 0, 1) := by decide +kernel
theorem dA_period_1 : decode prog_1_method_9_code 1 = .ok (.invokevirtual 125, 3) := by decide +kernel
theorem dA_period_4 : decode prog_1_method_9_code 4 = .ok (.aload_n 0, 1) := by decide +kernel
theorem dA_period_5 : decode prog_1_method_9_code 5 = .ok (.getfield 36, 3) := by decide +kernel
theorem dA_period_8 : decode prog_1_method_9_code 8 = .ok (.aload_n 0, 1) := by decide +kernel
theorem dA_period_9 : decode prog_1_method_9_code 9 = .ok (.getfield 12, 3) := by decide +kernel
theorem dA_period_12 : decode prog_1_method_9_code 12 = .ok (.aload_n 0, 1) := by decide +kernel
theorem dA_period_13 : decode prog_1_method_9_code 13 = .ok (.getfield 19, 3) := by decide +kernel
theorem dA_period_16 : decode prog_1_method_9_code 16 = .ok (.invokevirtual 128, 3) := by decide +kernel
theorem dA_period_19 : decode prog_1_method_9_code 19 = .ok (.aload_n 0, 1) := by decide +kernel
theorem dA_period_20 : decode prog_1_method_9_code 20 = .ok (.getfield 36, 3) := by decide +kernel
theorem dA_period_23 : decode prog_1_method_9_code 23 = .ok (.aload_n 0, 1) := by decide +kernel
theorem dA_period_24 : decode prog_1_method_9_code 24 = .ok (.getfield 12, 3) := by decide +kernel
theorem dA_period_27 : decode prog_1_method_9_code 27 = .ok (.getfield 68, 3) := by decide +kernel
theorem dA_period_30 : decode prog_1_method_9_code 30 = .ok (.invokevirtual 132, 3) := by decide +kernel
theorem dA_period_33 : decode prog_1_method_9_code 33 = .ok (.ireturn, 1) := by decide +kernel
theorem dA_weight_0 : decode prog_1_method_10_code 0 = .ok (.aload_n 0, 1) := by decide +kernel
theorem dA_weight_1 : decode prog_1_method_10_code 1 = .ok (.iload_n 1, 1) := by decide +kernel
theorem dA_weight_2 : decode prog_1_method_10_code 2 = .ok (.invokevirtual 135, 3) := by decide +kernel
theorem dA_weight_5 : decode prog_1_method_10_code 5 = .ok (.aload_n 0, 1) := by decide +kernel
theorem dA_weight_6 : decode prog_1_method_10_code 6 = .ok (.iload_n 2, 1) := by decide +kernel
theorem dA_weight_7 : decode prog_1_method_10_code 7 = .ok (.invokevirtual 135, 3) := by decide +kernel
theorem dA_weight_10 : decode prog_1_method_10_code 10 = .ok (.aload_n 0, 1) := by decide +kernel
theorem dA_weight_11 : decode prog_1_method_10_code 11 = .ok (.invokevirtual 125, 3) := by decide +kernel
theorem dA_weight_14 : decode prog_1_method_10_code 14 = .ok (.aload_n 0, 1) := by decide +kernel
theorem dA_weight_15 : decode prog_1_method_10_code 15 = .ok (.getfield 36, 3) := by decide +kernel
theorem dA_weight_18 : decode prog_1_method_10_code 18 = .ok (.aload_n 0, 1) := by decide +kernel
theorem dA_weight_19 : decode prog_1_method_10_code 19 = .ok (.getfield 12, 3) := by decide +kernel
theorem dA_weight_22 : decode prog_1_method_10_code 22 = .ok (.aload_n 0, 1) := by decide +kernel
theorem dA_weight_23 : decode prog_1_method_10_code 23 = .ok (.getfield 19, 3) := by decide +kernel
theorem dA_weight_26 : decode prog_1_method_10_code 26 = .ok (.invokevirtual 128, 3) := by decide +kernel
theorem dA_weight_29 : decode prog_1_method_10_code 29 = .ok (.aload_n 0, 1) := by decide +kernel
theorem dA_weight_30 : decode prog_1_method_10_code 30 = .ok (.getfield 36, 3) := by decide +kernel
theorem dA_weight_33 : decode prog_1_method_10_code 33 = .ok (.getfield 139, 3) := by decide +kernel
theorem dA_weight_36 : decode prog_1_method_10_code 36 = .ok (.iload_n 1, 1) := by decide +kernel
theorem dA_weight_37 : decode prog_1_method_10_code 37 = .ok (.aaload, 1) := by decide +kernel
theorem dA_weight_38 : decode prog_1_method_10_code 38 = .ok (.iload_n 2, 1) := by decide +kernel
theorem dA_weight_39 : decode prog_1_method_10_code 39 = .ok (.iaload, 1) := by decide +kernel
theorem dA_weight_40 : decode prog_1_method_10_code 40 = .ok (.ireturn, 1) := by decide +kernel
theorem dA_delay_0 : decode prog_1_method_11_code 0 = .ok (.aload_n 0, 1) := by decide +kernel
theorem dA_delay_1 : decode prog_1_method_11_code 1 = .ok (.iload_n 1, 1) := by decide +kernel
theorem dA_delay_2 : decode prog_1_method_11_code 2 = .ok (.invokevirtual 135, 3) := by decide +kernel
theorem dA_delay_5 : decode prog_1_method_11_code 5 = .ok (.aload_n 0, 1) := by decide +kernel
theorem dA_delay_6 : decode prog_1_method_11_code 6 = .ok (.iload_n 2, 1) := by decide +kernel
theorem dA_delay_7 : decode prog_1_method_11_code 7 = .ok (.invokevirtual 135, 3) := by decide +kernel
theorem dA_delay_10 : decode prog_1_method_11_code 10 = .ok (.aload_n 0, 1) := by decide +kernel
theorem dA_delay_11 : decode prog_1_method_11_code 11 = .ok (.invokevirtual 125, 3) := by decide +kernel
theorem dA_delay_14 : decode prog_1_method_11_code 14 = .ok (.aload_n 0, 1) := by decide +kernel
theorem dA_delay_15 : decode prog_1_method_11_code 15 = .ok (.getfield 36, 3) := by decide +kernel
theorem dA_delay_18 : decode prog_1_method_11_code 18 = .ok (.aload_n 0, 1) := by decide +kernel
theorem dA_delay_19 : decode prog_1_method_11_code 19 = .ok (.getfield 12, 3) := by decide +kernel
theorem dA_delay_22 : decode prog_1_method_11_code 22 = .ok (.aload_n 0, 1) := by decide +kernel
theorem dA_delay_23 : decode prog_1_method_11_code 23 = .ok (.getfield 19, 3) := by decide +kernel
theorem dA_delay_26 : decode prog_1_method_11_code 26 = .ok (.invokevirtual 128, 3) := by decide +kernel
theorem dA_delay_29 : decode prog_1_method_11_code 29 = .ok (.aload_n 0, 1) := by decide +kernel
theorem dA_delay_30 : decode prog_1_method_11_code 30 = .ok (.getfield 36, 3) := by decide +kernel
theorem dA_delay_33 : decode prog_1_method_11_code 33 = .ok (.getfield 143, 3) := by decide +kernel
theorem dA_delay_36 : decode prog_1_method_11_code 36 = .ok (.iload_n 1, 1) := by decide +kernel
theorem dA_delay_37 : decode prog_1_method_11_code 37 = .ok (.aaload, 1) := by decide +kernel
theorem dA_delay_38 : decode prog_1_method_11_code 38 = .ok (.iload_n 2, 1) := by decide +kernel
theorem dA_delay_39 : decode prog_1_method_11_code 39 = .ok (.iaload, 1) := by decide +kernel
theorem dA_delay_40 : decode prog_1_method_11_code 40 = .ok (.ireturn, 1) := by decide +kernel
theorem dA_least_0 : decode prog_1_method_12_code 0 = .ok (.aload_n 0, 1) := by decide +kernel
theorem dA_least_1 : decode prog_1_method_12_code 1 = .ok (.invokevirtual 125, 3) := by decide +kernel
theorem dA_least_4 : decode prog_1_method_12_code 4 = .ok (.aload_n 0, 1) := by decide +kernel
theorem dA_least_5 : decode prog_1_method_12_code 5 = .ok (.getfield 36, 3) := by decide +kernel
theorem dA_least_8 : decode prog_1_method_12_code 8 = .ok (.aload_n 0, 1) := by decide +kernel
theorem dA_least_9 : decode prog_1_method_12_code 9 = .ok (.getfield 12, 3) := by decide +kernel
theorem dA_least_12 : decode prog_1_method_12_code 12 = .ok (.aload_n 0, 1) := by decide +kernel
theorem dA_least_13 : decode prog_1_method_12_code 13 = .ok (.getfield 19, 3) := by decide +kernel
theorem dA_least_16 : decode prog_1_method_12_code 16 = .ok (.invokevirtual 128, 3) := by decide +kernel
theorem dA_least_19 : decode prog_1_method_12_code 19 = .ok (.iconst 0, 1) := by decide +kernel
theorem dA_least_20 : decode prog_1_method_12_code 20 = .ok (.istore_n 1, 1) := by decide +kernel
theorem dA_least_21 : decode prog_1_method_12_code 21 = .ok (.aload_n 0, 1) := by decide +kernel
theorem dA_least_22 : decode prog_1_method_12_code 22 = .ok (.getfield 36, 3) := by decide +kernel
theorem dA_least_25 : decode prog_1_method_12_code 25 = .ok (.aload_n 0, 1) := by decide +kernel
theorem dA_least_26 : decode prog_1_method_12_code 26 = .ok (.getfield 12, 3) := by decide +kernel
theorem dA_least_29 : decode prog_1_method_12_code 29 = .ok (.getfield 68, 3) := by decide +kernel
theorem dA_least_32 : decode prog_1_method_12_code 32 = .ok (.invokevirtual 132, 3) := by decide +kernel
theorem dA_least_35 : decode prog_1_method_12_code 35 = .ok (.istore_n 2, 1) := by decide +kernel
theorem dA_least_36 : decode prog_1_method_12_code 36 = .ok (.iconst 0, 1) := by decide +kernel
theorem dA_least_37 : decode prog_1_method_12_code 37 = .ok (.istore_n 3, 1) := by decide +kernel
theorem dA_least_38 : decode prog_1_method_12_code 38 = .ok (.iload_n 3, 1) := by decide +kernel
theorem dA_least_39 : decode prog_1_method_12_code 39 = .ok (.sipush (600), 3) := by decide +kernel
theorem dA_least_42 : decode prog_1_method_12_code 42 = .ok (.if_icmp .ge (72), 3) := by decide +kernel
theorem dA_least_45 : decode prog_1_method_12_code 45 = .ok (.iload_n 1, 1) := by decide +kernel
theorem dA_least_46 : decode prog_1_method_12_code 46 = .ok (.iload_n 2, 1) := by decide +kernel
theorem dA_least_47 : decode prog_1_method_12_code 47 = .ok (.if_icmp .ge (67), 3) := by decide +kernel
theorem dA_least_50 : decode prog_1_method_12_code 50 = .ok (.iload_n 1, 1) := by decide +kernel
theorem dA_least_51 : decode prog_1_method_12_code 51 = .ok (.iload_n 2, 1) := by decide +kernel
theorem dA_least_52 : decode prog_1_method_12_code 52 = .ok (.iadd, 1) := by decide +kernel
theorem dA_least_53 : decode prog_1_method_12_code 53 = .ok (.iconst 2, 1) := by decide +kernel
theorem dA_least_54 : decode prog_1_method_12_code 54 = .ok (.idiv, 1) := by decide +kernel
theorem dA_least_55 : decode prog_1_method_12_code 55 = .ok (.istore 4, 2) := by decide +kernel
theorem dA_least_57 : decode prog_1_method_12_code 57 = .ok (.aload_n 0, 1) := by decide +kernel
theorem dA_least_58 : decode prog_1_method_12_code 58 = .ok (.getfield 43, 3) := by decide +kernel
theorem dA_least_61 : decode prog_1_method_12_code 61 = .ok (.aload_n 0, 1) := by decide +kernel
theorem dA_least_62 : decode prog_1_method_12_code 62 = .ok (.getfield 12, 3) := by decide +kernel
theorem dA_least_65 : decode prog_1_method_12_code 65 = .ok (.aload_n 0, 1) := by decide +kernel
theorem dA_least_66 : decode prog_1_method_12_code 66 = .ok (.getfield 19, 3) := by decide +kernel
theorem dA_least_69 : decode prog_1_method_12_code 69 = .ok (.aload_n 0, 1) := by decide +kernel
theorem dA_least_70 : decode prog_1_method_12_code 70 = .ok (.getfield 36, 3) := by decide +kernel
theorem dA_least_73 : decode prog_1_method_12_code 73 = .ok (.iload 4, 2) := by decide +kernel
theorem dA_least_75 : decode prog_1_method_12_code 75 = .ok (.invokevirtual 146, 3) := by decide +kernel
theorem dA_least_78 : decode prog_1_method_12_code 78 = .ok (.aload_n 0, 1) := by decide +kernel
theorem dA_least_79 : decode prog_1_method_12_code 79 = .ok (.getfield 43, 3) := by decide +kernel
theorem dA_least_82 : decode prog_1_method_12_code 82 = .ok (.aload_n 0, 1) := by decide +kernel
theorem dA_least_83 : decode prog_1_method_12_code 83 = .ok (.getfield 12, 3) := by decide +kernel
theorem dA_least_86 : decode prog_1_method_12_code 86 = .ok (.getfield 68, 3) := by decide +kernel
theorem dA_least_89 : decode prog_1_method_12_code 89 = .ok (.bipush (6), 2) := by decide +kernel
theorem dA_least_91 : decode prog_1_method_12_code 91 = .ok (.invokevirtual 150, 3) := by decide +kernel
theorem dA_least_94 : decode prog_1_method_12_code 94 = .ok (.ifCond .eq (9), 3) := by decide +kernel
theorem dA_least_97 : decode prog_1_method_12_code 97 = .ok (.iload 4, 2) := by decide +kernel
theorem dA_least_99 : decode prog_1_method_12_code 99 = .ok (.istore_n 2, 1) := by decide +kernel
theorem dA_least_100 : decode prog_1_method_12_code 100 = .ok (.goto (8), 3) := by decide +kernel
theorem dA_least_103 : decode prog_1_method_12_code 103 = .ok (.iload 4, 2) := by decide +kernel
theorem dA_least_105 : decode prog_1_method_12_code 105 = .ok (.iconst 1, 1) := by decide +kernel
theorem dA_least_106 : decode prog_1_method_12_code 106 = .ok (.iadd, 1) := by decide +kernel
theorem dA_least_107 : decode prog_1_method_12_code 107 = .ok (.istore_n 1, 1) := by decide +kernel
theorem dA_least_108 : decode prog_1_method_12_code 108 = .ok (.iinc 3 (1), 3) := by decide +kernel
theorem dA_least_111 : decode prog_1_method_12_code 111 = .ok (.goto (-73), 3) := by decide +kernel
theorem dA_least_114 : decode prog_1_method_12_code 114 = .ok (.iload_n 2, 1) := by decide +kernel
theorem dA_least_115 : decode prog_1_method_12_code 115 = .ok (.ireturn, 1) := by decide +kernel
theorem dA_shared_0 : decode prog_1_method_13_code 0 = .ok (.aload_n 0, 1) := by decide +kernel
theorem dA_shared_1 : decode prog_1_method_13_code 1 = .ok (.invokevirtual 125, 3) := by decide +kernel
theorem dA_shared_4 : decode prog_1_method_13_code 4 = .ok (.iconst 0, 1) := by decide +kernel
theorem dA_shared_5 : decode prog_1_method_13_code 5 = .ok (.istore_n 1, 1) := by decide +kernel
theorem dA_shared_6 : decode prog_1_method_13_code 6 = .ok (.bipush (-3), 2) := by decide +kernel
theorem dA_shared_8 : decode prog_1_method_13_code 8 = .ok (.istore_n 2, 1) := by decide +kernel
theorem dA_shared_9 : decode prog_1_method_13_code 9 = .ok (.iload_n 2, 1) := by decide +kernel
theorem dA_shared_10 : decode prog_1_method_13_code 10 = .ok (.aload_n 0, 1) := by decide +kernel
theorem dA_shared_11 : decode prog_1_method_13_code 11 = .ok (.getfield 12, 3) := by decide +kernel
theorem dA_shared_14 : decode prog_1_method_13_code 14 = .ok (.getfield 68, 3) := by decide +kernel
theorem dA_shared_17 : decode prog_1_method_13_code 17 = .ok (.if_icmp .gt (17), 3) := by decide +kernel
theorem dA_shared_20 : decode prog_1_method_13_code 20 = .ok (.iload_n 1, 1) := by decide +kernel
theorem dA_shared_21 : decode prog_1_method_13_code 21 = .ok (.aload_n 0, 1) := by decide +kernel
theorem dA_shared_22 : decode prog_1_method_13_code 22 = .ok (.iload_n 2, 1) := by decide +kernel
theorem dA_shared_23 : decode prog_1_method_13_code 23 = .ok (.invokevirtual 154, 3) := by decide +kernel
theorem dA_shared_26 : decode prog_1_method_13_code 26 = .ok (.iadd, 1) := by decide +kernel
theorem dA_shared_27 : decode prog_1_method_13_code 27 = .ok (.istore_n 1, 1) := by decide +kernel
theorem dA_shared_28 : decode prog_1_method_13_code 28 = .ok (.iinc 2 (1), 3) := by decide +kernel
theorem dA_shared_31 : decode prog_1_method_13_code 31 = .ok (.goto (-22), 3) := by decide +kernel
theorem dA_shared_34 : decode prog_1_method_13_code 34 = .ok (.iload_n 1, 1) := by decide +kernel
theorem dA_shared_35 : decode prog_1_method_13_code 35 = .ok (.ireturn, 1) := by decide +kernel
theorem dA_retime_0 : decode prog_1_method_14_code 0 = .ok (.aload_n 0, 1) := by decide +kernel
theorem dA_retime_1 : decode prog_1_method_14_code 1 = .ok (.invokevirtual 125, 3) := by decide +kernel
theorem dA_retime_4 : decode prog_1_method_14_code 4 = .ok (.iload_n 1, 1) := by decide +kernel
theorem dA_retime_5 : decode prog_1_method_14_code 5 = .ok (.ifCond .lt (10), 3) := by decide +kernel
theorem dA_retime_8 : decode prog_1_method_14_code 8 = .ok (.iload_n 1, 1) := by decide +kernel
theorem dA_retime_9 : decode prog_1_method_14_code 9 = .ok (.sipush (600), 3) := by decide +kernel
theorem dA_retime_12 : decode prog_1_method_14_code 12 = .ok (.if_icmp .le (11), 3) := by decide +kernel
theorem dA_retime_15 : decode prog_1_method_14_code 15 = .ok (.new 65, 3) := by decide +kernel
theorem dA_retime_18 : decode prog_1_method_14_code 18 = .ok (.dup, 1) := by decide +kernel
theorem dA_retime_19 : decode prog_1_method_14_code 19 = .ok (.invokespecial 67, 3) := by decide +kernel
theorem dA_retime_22 : decode prog_1_method_14_code 22 = .ok (.athrow, 1) := by decide +kernel
theorem dA_retime_23 : decode prog_1_method_14_code 23 = .ok (.aload_n 0, 1) := by decide +kernel
theorem dA_retime_24 : decode prog_1_method_14_code 24 = .ok (.getfield 36, 3) := by decide +kernel
theorem dA_retime_27 : decode prog_1_method_14_code 27 = .ok (.aload_n 0, 1) := by decide +kernel
theorem dA_retime_28 : decode prog_1_method_14_code 28 = .ok (.getfield 12, 3) := by decide +kernel
theorem dA_retime_31 : decode prog_1_method_14_code 31 = .ok (.aload_n 0, 1) := by decide +kernel
theorem dA_retime_32 : decode prog_1_method_14_code 32 = .ok (.getfield 19, 3) := by decide +kernel
theorem dA_retime_35 : decode prog_1_method_14_code 35 = .ok (.invokevirtual 128, 3) := by decide +kernel
theorem dA_retime_38 : decode prog_1_method_14_code 38 = .ok (.aload_n 0, 1) := by decide +kernel
theorem dA_retime_39 : decode prog_1_method_14_code 39 = .ok (.getfield 43, 3) := by decide +kernel
theorem dA_retime_42 : decode prog_1_method_14_code 42 = .ok (.aload_n 0, 1) := by decide +kernel
theorem dA_retime_43 : decode prog_1_method_14_code 43 = .ok (.getfield 12, 3) := by decide +kernel
theorem dA_retime_46 : decode prog_1_method_14_code 46 = .ok (.aload_n 0, 1) := by decide +kernel
theorem dA_retime_47 : decode prog_1_method_14_code 47 = .ok (.getfield 19, 3) := by decide +kernel
theorem dA_retime_50 : decode prog_1_method_14_code 50 = .ok (.aload_n 0, 1) := by decide +kernel
theorem dA_retime_51 : decode prog_1_method_14_code 51 = .ok (.getfield 36, 3) := by decide +kernel
theorem dA_retime_54 : decode prog_1_method_14_code 54 = .ok (.iload_n 1, 1) := by decide +kernel
theorem dA_retime_55 : decode prog_1_method_14_code 55 = .ok (.invokevirtual 146, 3) := by decide +kernel
theorem dA_retime_58 : decode prog_1_method_14_code 58 = .ok (.aload_n 0, 1) := by decide +kernel
theorem dA_retime_59 : decode prog_1_method_14_code 59 = .ok (.bipush (6), 2) := by decide +kernel
theorem dA_retime_61 : decode prog_1_method_14_code 61 = .ok (.invokevirtual 157, 3) := by decide +kernel
theorem dA_retime_64 : decode prog_1_method_14_code 64 = .ok (.ifCond .eq (5), 3) := by decide +kernel
theorem dA_retime_67 : decode prog_1_method_14_code 67 = .ok (.iconst 2, 1) := by decide +kernel
theorem dA_retime_68 : decode prog_1_method_14_code 68 = .ok (.ireturn, 1) := by decide +kernel
theorem dA_retime_69 : decode prog_1_method_14_code 69 = .ok (.aload_n 0, 1) := by decide +kernel
theorem dA_retime_70 : decode prog_1_method_14_code 70 = .ok (.iconst 0, 1) := by decide +kernel
theorem dA_retime_71 : decode prog_1_method_14_code 71 = .ok (.invokevirtual 157, 3) := by decide +kernel
theorem dA_retime_74 : decode prog_1_method_14_code 74 = .ok (.ifCond .eq (7), 3) := by decide +kernel
theorem dA_retime_77 : decode prog_1_method_14_code 77 = .ok (.iconst 1, 1) := by decide +kernel
theorem dA_retime_78 : decode prog_1_method_14_code 78 = .ok (.goto (4), 3) := by decide +kernel
theorem dA_retime_81 : decode prog_1_method_14_code 81 = .ok (.iconst 0, 1) := by decide +kernel
theorem dA_retime_82 : decode prog_1_method_14_code 82 = .ok (.ireturn, 1) := by decide +kernel
theorem dA_label_0 : decode prog_1_method_15_code 0 = .ok (.aload_n 0, 1) := by decide +kernel
theorem dA_label_1 : decode prog_1_method_15_code 1 = .ok (.iload_n 1, 1) := by decide +kernel
theorem dA_label_2 : decode prog_1_method_15_code 2 = .ok (.invokevirtual 135, 3) := by decide +kernel
theorem dA_label_5 : decode prog_1_method_15_code 5 = .ok (.aload_n 0, 1) := by decide +kernel
theorem dA_label_6 : decode prog_1_method_15_code 6 = .ok (.getfield 61, 3) := by decide +kernel
theorem dA_label_9 : decode prog_1_method_15_code 9 = .ok (.iload_n 1, 1) := by decide +kernel
theorem dA_label_10 : decode prog_1_method_15_code 10 = .ok (.iaload, 1) := by decide +kernel
theorem dA_label_11 : decode prog_1_method_15_code 11 = .ok (.ireturn, 1) := by decide +kernel
theorem dA_tick_0 : decode prog_1_method_16_code 0 = .ok (.aload_n 0, 1) := by decide +kernel
theorem dA_tick_1 : decode prog_1_method_16_code 1 = .ok (.invokevirtual 125, 3) := by decide +kernel
theorem dA_tick_4 : decode prog_1_method_16_code 4 = .ok (.iload_n 1, 1) := by decide +kernel
theorem dA_tick_5 : decode prog_1_method_16_code 5 = .ok (.invokestatic 104, 3) := by decide +kernel
theorem dA_tick_8 : decode prog_1_method_16_code 8 = .ok (.ifCond .eq (17), 3) := by decide +kernel
theorem dA_tick_11 : decode prog_1_method_16_code 11 = .ok (.iload_n 2, 1) := by decide +kernel
theorem dA_tick_12 : decode prog_1_method_16_code 12 = .ok (.invokestatic 104, 3) := by decide +kernel
theorem dA_tick_15 : decode prog_1_method_16_code 15 = .ok (.ifCond .eq (10), 3) := by decide +kernel
theorem dA_tick_18 : decode prog_1_method_16_code 18 = .ok (.iload_n 3, 1) := by decide +kernel
theorem dA_tick_19 : decode prog_1_method_16_code 19 = .ok (.invokestatic 104, 3) := by decide +kernel
theorem dA_tick_22 : decode prog_1_method_16_code 22 = .ok (.ifCond .ne (11), 3) := by decide +kernel
theorem dA_tick_25 : decode prog_1_method_16_code 25 = .ok (.new 65, 3) := by decide +kernel
theorem dA_tick_28 : decode prog_1_method_16_code 28 = .ok (.dup, 1) := by decide +kernel
theorem dA_tick_29 : decode prog_1_method_16_code 29 = .ok (.invokespecial 67, 3) := by decide +kernel
theorem dA_tick_32 : decode prog_1_method_16_code 32 = .ok (.athrow, 1) := by decide +kernel
theorem dA_tick_33 : decode prog_1_method_16_code 33 = .ok (.aload_n 0, 1) := by decide +kernel
theorem dA_tick_34 : decode prog_1_method_16_code 34 = .ok (.getfield 57, 3) := by decide +kernel
theorem dA_tick_37 : decode prog_1_method_16_code 37 = .ok (.iload_n 1, 1) := by decide +kernel
theorem dA_tick_38 : decode prog_1_method_16_code 38 = .ok (.iload_n 2, 1) := by decide +kernel
theorem dA_tick_39 : decode prog_1_method_16_code 39 = .ok (.iload_n 3, 1) := by decide +kernel
theorem dA_tick_40 : decode prog_1_method_16_code 40 = .ok (.invokevirtual 160, 3) := by decide +kernel
theorem dA_tick_43 : decode prog_1_method_16_code 43 = .ok (.aload_n 0, 1) := by decide +kernel
theorem dA_tick_44 : decode prog_1_method_16_code 44 = .ok (.getfield 57, 3) := by decide +kernel
theorem dA_tick_47 : decode prog_1_method_16_code 47 = .ok (.aload_n 0, 1) := by decide +kernel
theorem dA_tick_48 : decode prog_1_method_16_code 48 = .ok (.getfield 12, 3) := by decide +kernel
theorem dA_tick_51 : decode prog_1_method_16_code 51 = .ok (.aload_n 0, 1) := by decide +kernel
theorem dA_tick_52 : decode prog_1_method_16_code 52 = .ok (.getfield 29, 3) := by decide +kernel
theorem dA_tick_55 : decode prog_1_method_16_code 55 = .ok (.invokevirtual 163, 3) := by decide +kernel
theorem dA_tick_58 : decode prog_1_method_16_code 58 = .ok (.aload_n 0, 1) := by decide +kernel
theorem dA_tick_59 : decode prog_1_method_16_code 59 = .ok (.getfield 57, 3) := by decide +kernel
theorem dA_tick_62 : decode prog_1_method_16_code 62 = .ok (.aload_n 0, 1) := by decide +kernel
theorem dA_tick_63 : decode prog_1_method_16_code 63 = .ok (.getfield 12, 3) := by decide +kernel
theorem dA_tick_66 : decode prog_1_method_16_code 66 = .ok (.invokevirtual 167, 3) := by decide +kernel
theorem dA_tick_69 : decode prog_1_method_16_code 69 = .ok (.istore 4, 2) := by decide +kernel
theorem dA_tick_71 : decode prog_1_method_16_code 71 = .ok (.aload_n 0, 1) := by decide +kernel
theorem dA_tick_72 : decode prog_1_method_16_code 72 = .ok (.getfield 57, 3) := by decide +kernel
theorem dA_tick_75 : decode prog_1_method_16_code 75 = .ok (.aload_n 0, 1) := by decide +kernel
theorem dA_tick_76 : decode prog_1_method_16_code 76 = .ok (.getfield 12, 3) := by decide +kernel
theorem dA_tick_79 : decode prog_1_method_16_code 79 = .ok (.invokevirtual 171, 3) := by decide +kernel
theorem dA_tick_82 : decode prog_1_method_16_code 82 = .ok (.iload 4, 2) := by decide +kernel
theorem dA_tick_84 : decode prog_1_method_16_code 84 = .ok (.ireturn, 1) := by decide +kernel
theorem dA_restart_0 : decode prog_1_method_17_code 0 = .ok (.aload_n 0, 1) := by decide +kernel
theorem dA_restart_1 : decode prog_1_method_17_code 1 = .ok (.getfield 57, 3) := by decide +kernel
theorem dA_restart_4 : decode prog_1_method_17_code 4 = .ok (.aload_n 0, 1) := by decide +kernel
theorem dA_restart_5 : decode prog_1_method_17_code 5 = .ok (.getfield 19, 3) := by decide +kernel
theorem dA_restart_8 : decode prog_1_method_17_code 8 = .ok (.invokevirtual 79, 3) := by decide +kernel
theorem dA_restart_11 : decode prog_1_method_17_code 11 = .ok (.return_, 1) := by decide +kernel
theorem dA_isValue_0 : decode prog_1_method_18_code 0 = .ok (.iload_n 0, 1) := by decide +kernel
theorem dA_isValue_1 : decode prog_1_method_18_code 1 = .ok (.ifCond .lt (12), 3) := by decide +kernel
theorem dA_isValue_4 : decode prog_1_method_18_code 4 = .ok (.iload_n 0, 1) := by decide +kernel
theorem dA_isValue_5 : decode prog_1_method_18_code 5 = .ok (.iconst 2, 1) := by decide +kernel
theorem dA_isValue_6 : decode prog_1_method_18_code 6 = .ok (.if_icmp .gt (7), 3) := by decide +kernel
theorem dA_isValue_9 : decode prog_1_method_18_code 9 = .ok (.iconst 1, 1) := by decide +kernel
theorem dA_isValue_10 : decode prog_1_method_18_code 10 = .ok (.goto (4), 3) := by decide +kernel
theorem dA_isValue_13 : decode prog_1_method_18_code 13 = .ok (.iconst 0, 1) := by decide +kernel
theorem dA_isValue_14 : decode prog_1_method_18_code 14 = .ok (.ireturn, 1) := by decide +kernel
theorem dA_needGate_0 : decode prog_1_method_19_code 0 = .ok (.aload_n 0, 1) := by decide +kernel
theorem dA_needGate_1 : decode prog_1_method_19_code 1 = .ok (.getfield 12, 3) := by decide +kernel
theorem dA_needGate_4 : decode prog_1_method_19_code 4 = .ok (.iload_n 1, 1) := by decide +kernel
theorem dA_needGate_5 : decode prog_1_method_19_code 5 = .ok (.invokevirtual 175, 3) := by decide +kernel
theorem dA_needGate_8 : decode prog_1_method_19_code 8 = .ok (.ifCond .ne (11), 3) := by decide +kernel
theorem dA_needGate_11 : decode prog_1_method_19_code 11 = .ok (.new 87, 3) := by decide +kernel
theorem dA_needGate_14 : decode prog_1_method_19_code 14 = .ok (.dup, 1) := by decide +kernel
theorem dA_needGate_15 : decode prog_1_method_19_code 15 = .ok (.invokespecial 89, 3) := by decide +kernel
theorem dA_needGate_18 : decode prog_1_method_19_code 18 = .ok (.athrow, 1) := by decide +kernel
theorem dA_needGate_19 : decode prog_1_method_19_code 19 = .ok (.return_, 1) := by decide +kernel
theorem dA_needSound_0 : decode prog_1_method_20_code 0 = .ok (.aload_n 0, 1) := by decide +kernel
theorem dA_needSound_1 : decode prog_1_method_20_code 1 = .ok (.invokevirtual 121, 3) := by decide +kernel
theorem dA_needSound_4 : decode prog_1_method_20_code 4 = .ok (.ifCond .ne (11), 3) := by decide +kernel
theorem dA_needSound_7 : decode prog_1_method_20_code 7 = .ok (.new 178, 3) := by decide +kernel
theorem dA_needSound_10 : decode prog_1_method_20_code 10 = .ok (.dup, 1) := by decide +kernel
theorem dA_needSound_11 : decode prog_1_method_20_code 11 = .ok (.invokespecial 180, 3) := by decide +kernel
theorem dA_needSound_14 : decode prog_1_method_20_code 14 = .ok (.athrow, 1) := by decide +kernel
theorem dA_needSound_15 : decode prog_1_method_20_code 15 = .ok (.return_, 1) := by decide +kernel
theorem dA_isSound_0 : decode prog_1_method_21_code 0 = .ok (.aload_n 0, 1) := by decide +kernel
theorem dA_isSound_1 : decode prog_1_method_21_code 1 = .ok (.getfield 12, 3) := by decide +kernel
theorem dA_isSound_4 : decode prog_1_method_21_code 4 = .ok (.invokevirtual 181, 3) := by decide +kernel
theorem dA_isSound_7 : decode prog_1_method_21_code 7 = .ok (.ifCond .eq (25), 3) := by decide +kernel
theorem dA_isSound_10 : decode prog_1_method_21_code 10 = .ok (.aload_n 0, 1) := by decide +kernel
theorem dA_isSound_11 : decode prog_1_method_21_code 11 = .ok (.getfield 29, 3) := by decide +kernel
theorem dA_isSound_14 : decode prog_1_method_21_code 14 = .ok (.aload_n 0, 1) := by decide +kernel
theorem dA_isSound_15 : decode prog_1_method_21_code 15 = .ok (.getfield 12, 3) := by decide +kernel
theorem dA_isSound_18 : decode prog_1_method_21_code 18 = .ok (.aload_n 0, 1) := by decide +kernel
theorem dA_isSound_19 : decode prog_1_method_21_code 19 = .ok (.getfield 19, 3) := by decide +kernel
theorem dA_isSound_22 : decode prog_1_method_21_code 22 = .ok (.invokevirtual 184, 3) := by decide +kernel
theorem dA_isSound_25 : decode prog_1_method_21_code 25 = .ok (.ifCond .eq (7), 3) := by decide +kernel
theorem dA_isSound_28 : decode prog_1_method_21_code 28 = .ok (.iconst 1, 1) := by decide +kernel
theorem dA_isSound_29 : decode prog_1_method_21_code 29 = .ok (.goto (4), 3) := by decide +kernel
theorem dA_isSound_32 : decode prog_1_method_21_code 32 = .ok (.iconst 0, 1) := by decide +kernel
theorem dA_isSound_33 : decode prog_1_method_21_code 33 = .ok (.ireturn, 1) := by decide +kernel
theorem dA_wireTo_0 : decode prog_1_method_22_code 0 = .ok (.aload_n 0, 1) := by decide +kernel
theorem dA_wireTo_1 : decode prog_1_method_22_code 1 = .ok (.getfield 12, 3) := by decide +kernel
theorem dA_wireTo_4 : decode prog_1_method_22_code 4 = .ok (.iload_n 1, 1) := by decide +kernel
theorem dA_wireTo_5 : decode prog_1_method_22_code 5 = .ok (.iload_n 2, 1) := by decide +kernel
theorem dA_wireTo_6 : decode prog_1_method_22_code 6 = .ok (.invokevirtual 90, 3) := by decide +kernel
theorem dA_wireTo_9 : decode prog_1_method_22_code 9 = .ok (.istore_n 3, 1) := by decide +kernel
theorem dA_wireTo_10 : decode prog_1_method_22_code 10 = .ok (.iload_n 3, 1) := by decide +kernel
theorem dA_wireTo_11 : decode prog_1_method_22_code 11 = .ok (.iconst (-1), 1) := by decide +kernel
theorem dA_wireTo_12 : decode prog_1_method_22_code 12 = .ok (.if_icmp .eq (15), 3) := by decide +kernel
theorem dA_wireTo_15 : decode prog_1_method_22_code 15 = .ok (.aload_n 0, 1) := by decide +kernel
theorem dA_wireTo_16 : decode prog_1_method_22_code 16 = .ok (.getfield 12, 3) := by decide +kernel
theorem dA_wireTo_19 : decode prog_1_method_22_code 19 = .ok (.getfield 94, 3) := by decide +kernel
theorem dA_wireTo_22 : decode prog_1_method_22_code 22 = .ok (.iload_n 3, 1) := by decide +kernel
theorem dA_wireTo_23 : decode prog_1_method_22_code 23 = .ok (.iaload, 1) := by decide +kernel
theorem dA_wireTo_24 : decode prog_1_method_22_code 24 = .ok (.ifCond .ne (11), 3) := by decide +kernel
theorem dA_wireTo_27 : decode prog_1_method_22_code 27 = .ok (.new 87, 3) := by decide +kernel
theorem dA_wireTo_30 : decode prog_1_method_22_code 30 = .ok (.dup, 1) := by decide +kernel
theorem dA_wireTo_31 : decode prog_1_method_22_code 31 = .ok (.invokespecial 89, 3) := by decide +kernel
theorem dA_wireTo_34 : decode prog_1_method_22_code 34 = .ok (.athrow, 1) := by decide +kernel
theorem dA_wireTo_35 : decode prog_1_method_22_code 35 = .ok (.iload_n 3, 1) := by decide +kernel
theorem dA_wireTo_36 : decode prog_1_method_22_code 36 = .ok (.ireturn, 1) := by decide +kernel
theorem dA_registerWire_0 : decode prog_1_method_23_code 0 = .ok (.aload_n 0, 1) := by decide +kernel
theorem dA_registerWire_1 : decode prog_1_method_23_code 1 = .ok (.iload_n 1, 1) := by decide +kernel
theorem dA_registerWire_2 : decode prog_1_method_23_code 2 = .ok (.iload_n 2, 1) := by decide +kernel
theorem dA_registerWire_3 : decode prog_1_method_23_code 3 = .ok (.invokevirtual 114, 3) := by decide +kernel
theorem dA_registerWire_6 : decode prog_1_method_23_code 6 = .ok (.istore 4, 2) := by decide +kernel
theorem dA_registerWire_8 : decode prog_1_method_23_code 8 = .ok (.iload_n 3, 1) := by decide +kernel
theorem dA_registerWire_9 : decode prog_1_method_23_code 9 = .ok (.ifCond .lt (16), 3) := by decide +kernel
theorem dA_registerWire_12 : decode prog_1_method_23_code 12 = .ok (.iload_n 3, 1) := by decide +kernel
theorem dA_registerWire_13 : decode prog_1_method_23_code 13 = .ok (.aload_n 0, 1) := by decide +kernel
theorem dA_registerWire_14 : decode prog_1_method_23_code 14 = .ok (.getfield 19, 3) := by decide +kernel
theorem dA_registerWire_17 : decode prog_1_method_23_code 17 = .ok (.iload 4, 2) := by decide +kernel
theorem dA_registerWire_19 : decode prog_1_method_23_code 19 = .ok (.invokevirtual 117, 3) := by decide +kernel
theorem dA_registerWire_22 : decode prog_1_method_23_code 22 = .ok (.if_icmp .lt (11), 3) := by decide +kernel
theorem dA_registerWire_25 : decode prog_1_method_23_code 25 = .ok (.new 87, 3) := by decide +kernel
theorem dA_registerWire_28 : decode prog_1_method_23_code 28 = .ok (.dup, 1) := by decide +kernel
theorem dA_registerWire_29 : decode prog_1_method_23_code 29 = .ok (.invokespecial 89, 3) := by decide +kernel
theorem dA_registerWire_32 : decode prog_1_method_23_code 32 = .ok (.athrow, 1) := by decide +kernel
theorem dA_registerWire_33 : decode prog_1_method_23_code 33 = .ok (.iload 4, 2) := by decide +kernel
theorem dA_registerWire_35 : decode prog_1_method_23_code 35 = .ok (.ireturn, 1) := by decide +kernel
theorem dA_mostFrom_0 : decode prog_1_method_24_code 0 = .ok (.iconst 0, 1) := by decide +kernel
theorem dA_mostFrom_1 : decode prog_1_method_24_code 1 = .ok (.istore_n 2, 1) := by decide +kernel
theorem dA_mostFrom_2 : decode prog_1_method_24_code 2 = .ok (.iconst 0, 1) := by decide +kernel
theorem dA_mostFrom_3 : decode prog_1_method_24_code 3 = .ok (.istore_n 3, 1) := by decide +kernel
theorem dA_mostFrom_4 : decode prog_1_method_24_code 4 = .ok (.iload_n 3, 1) := by decide +kernel
theorem dA_mostFrom_5 : decode prog_1_method_24_code 5 = .ok (.bipush (27), 2) := by decide +kernel
theorem dA_mostFrom_7 : decode prog_1_method_24_code 7 = .ok (.if_icmp .ge (35), 3) := by decide +kernel
theorem dA_mostFrom_10 : decode prog_1_method_24_code 10 = .ok (.aload_n 0, 1) := by decide +kernel
theorem dA_mostFrom_11 : decode prog_1_method_24_code 11 = .ok (.getfield 12, 3) := by decide +kernel
theorem dA_mostFrom_14 : decode prog_1_method_24_code 14 = .ok (.getfield 94, 3) := by decide +kernel
theorem dA_mostFrom_17 : decode prog_1_method_24_code 17 = .ok (.iload_n 3, 1) := by decide +kernel
theorem dA_mostFrom_18 : decode prog_1_method_24_code 18 = .ok (.iaload, 1) := by decide +kernel
theorem dA_mostFrom_19 : decode prog_1_method_24_code 19 = .ok (.iload_n 1, 1) := by decide +kernel
theorem dA_mostFrom_20 : decode prog_1_method_24_code 20 = .ok (.if_icmp .ne (16), 3) := by decide +kernel
theorem dA_mostFrom_23 : decode prog_1_method_24_code 23 = .ok (.iload_n 2, 1) := by decide +kernel
theorem dA_mostFrom_24 : decode prog_1_method_24_code 24 = .ok (.aload_n 0, 1) := by decide +kernel
theorem dA_mostFrom_25 : decode prog_1_method_24_code 25 = .ok (.getfield 19, 3) := by decide +kernel
theorem dA_mostFrom_28 : decode prog_1_method_24_code 28 = .ok (.iload_n 3, 1) := by decide +kernel
theorem dA_mostFrom_29 : decode prog_1_method_24_code 29 = .ok (.invokevirtual 117, 3) := by decide +kernel
theorem dA_mostFrom_32 : decode prog_1_method_24_code 32 = .ok (.invokestatic 188, 3) := by decide +kernel
theorem dA_mostFrom_35 : decode prog_1_method_24_code 35 = .ok (.istore_n 2, 1) := by decide +kernel
theorem dA_mostFrom_36 : decode prog_1_method_24_code 36 = .ok (.iinc 3 (1), 3) := by decide +kernel
theorem dA_mostFrom_39 : decode prog_1_method_24_code 39 = .ok (.goto (-35), 3) := by decide +kernel
theorem dA_mostFrom_42 : decode prog_1_method_24_code 42 = .ok (.iload_n 2, 1) := by decide +kernel
theorem dA_mostFrom_43 : decode prog_1_method_24_code 43 = .ok (.ireturn, 1) := by decide +kernel
theorem dA_moveUpTo_0 : decode prog_1_method_25_code 0 = .ok (.aload_n 0, 1) := by decide +kernel
theorem dA_moveUpTo_1 : decode prog_1_method_25_code 1 = .ok (.getfield 43, 3) := by decide +kernel
theorem dA_moveUpTo_4 : decode prog_1_method_25_code 4 = .ok (.aload_n 0, 1) := by decide +kernel
theorem dA_moveUpTo_5 : decode prog_1_method_25_code 5 = .ok (.getfield 12, 3) := by decide +kernel
theorem dA_moveUpTo_8 : decode prog_1_method_25_code 8 = .ok (.getfield 68, 3) := by decide +kernel
theorem dA_moveUpTo_11 : decode prog_1_method_25_code 11 = .ok (.iload_n 1, 1) := by decide +kernel
theorem dA_moveUpTo_12 : decode prog_1_method_25_code 12 = .ok (.invokevirtual 150, 3) := by decide +kernel
theorem dA_moveUpTo_15 : decode prog_1_method_25_code 15 = .ok (.ifCond .ne (5), 3) := by decide +kernel
theorem dA_moveUpTo_18 : decode prog_1_method_25_code 18 = .ok (.iconst 0, 1) := by decide +kernel
theorem dA_moveUpTo_19 : decode prog_1_method_25_code 19 = .ok (.ireturn, 1) := by decide +kernel
theorem dA_moveUpTo_20 : decode prog_1_method_25_code 20 = .ok (.aload_n 0, 1) := by decide +kernel
theorem dA_moveUpTo_21 : decode prog_1_method_25_code 21 = .ok (.getfield 23, 3) := by decide +kernel
theorem dA_moveUpTo_24 : decode prog_1_method_25_code 24 = .ok (.aload_n 0, 1) := by decide +kernel
theorem dA_moveUpTo_25 : decode prog_1_method_25_code 25 = .ok (.getfield 19, 3) := by decide +kernel
theorem dA_moveUpTo_28 : decode prog_1_method_25_code 28 = .ok (.invokevirtual 193, 3) := by decide +kernel
theorem dA_moveUpTo_31 : decode prog_1_method_25_code 31 = .ok (.aload_n 0, 1) := by decide +kernel
theorem dA_moveUpTo_32 : decode prog_1_method_25_code 32 = .ok (.getfield 50, 3) := by decide +kernel
theorem dA_moveUpTo_35 : decode prog_1_method_25_code 35 = .ok (.aload_n 0, 1) := by decide +kernel
theorem dA_moveUpTo_36 : decode prog_1_method_25_code 36 = .ok (.getfield 12, 3) := by decide +kernel
theorem dA_moveUpTo_39 : decode prog_1_method_25_code 39 = .ok (.aload_n 0, 1) := by decide +kernel
theorem dA_moveUpTo_40 : decode prog_1_method_25_code 40 = .ok (.getfield 23, 3) := by decide +kernel
theorem dA_moveUpTo_43 : decode prog_1_method_25_code 43 = .ok (.aload_n 0, 1) := by decide +kernel
theorem dA_moveUpTo_44 : decode prog_1_method_25_code 44 = .ok (.getfield 43, 3) := by decide +kernel
theorem dA_moveUpTo_47 : decode prog_1_method_25_code 47 = .ok (.getfield 196, 3) := by decide +kernel
theorem dA_moveUpTo_50 : decode prog_1_method_25_code 50 = .ok (.invokevirtual 199, 3) := by decide +kernel
theorem dA_moveUpTo_53 : decode prog_1_method_25_code 53 = .ok (.ifCond .ne (5), 3) := by decide +kernel
theorem dA_moveUpTo_56 : decode prog_1_method_25_code 56 = .ok (.iconst 0, 1) := by decide +kernel
theorem dA_moveUpTo_57 : decode prog_1_method_25_code 57 = .ok (.ireturn, 1) := by decide +kernel
theorem dA_moveUpTo_58 : decode prog_1_method_25_code 58 = .ok (.aload_n 0, 1) := by decide +kernel
theorem dA_moveUpTo_59 : decode prog_1_method_25_code 59 = .ok (.getfield 19, 3) := by decide +kernel
theorem dA_moveUpTo_62 : decode prog_1_method_25_code 62 = .ok (.aload_n 0, 1) := by decide +kernel
theorem dA_moveUpTo_63 : decode prog_1_method_25_code 63 = .ok (.getfield 23, 3) := by decide +kernel
theorem dA_moveUpTo_66 : decode prog_1_method_25_code 66 = .ok (.invokevirtual 193, 3) := by decide +kernel
theorem dA_moveUpTo_69 : decode prog_1_method_25_code 69 = .ok (.aload_n 0, 1) := by decide +kernel
theorem dA_moveUpTo_70 : decode prog_1_method_25_code 70 = .ok (.getfield 43, 3) := by decide +kernel
theorem dA_moveUpTo_73 : decode prog_1_method_25_code 73 = .ok (.getfield 196, 3) := by decide +kernel
theorem dA_moveUpTo_76 : decode prog_1_method_25_code 76 = .ok (.iconst 0, 1) := by decide +kernel
theorem dA_moveUpTo_77 : decode prog_1_method_25_code 77 = .ok (.aload_n 0, 1) := by decide +kernel
theorem dA_moveUpTo_78 : decode prog_1_method_25_code 78 = .ok (.getfield 61, 3) := by decide +kernel
theorem dA_moveUpTo_81 : decode prog_1_method_25_code 81 = .ok (.iconst 0, 1) := by decide +kernel
theorem dA_moveUpTo_82 : decode prog_1_method_25_code 82 = .ok (.aload_n 0, 1) := by decide +kernel
theorem dA_moveUpTo_83 : decode prog_1_method_25_code 83 = .ok (.getfield 12, 3) := by decide +kernel
theorem dA_moveUpTo_86 : decode prog_1_method_25_code 86 = .ok (.getfield 68, 3) := by decide +kernel
theorem dA_moveUpTo_89 : decode prog_1_method_25_code 89 = .ok (.iconst 1, 1) := by decide +kernel
theorem dA_moveUpTo_90 : decode prog_1_method_25_code 90 = .ok (.iadd, 1) := by decide +kernel
theorem dA_moveUpTo_91 : decode prog_1_method_25_code 91 = .ok (.invokestatic 203, 3) := by decide +kernel
theorem dA_moveUpTo_94 : decode prog_1_method_25_code 94 = .ok (.aload_n 0, 1) := by decide +kernel
theorem dA_moveUpTo_95 : decode prog_1_method_25_code 95 = .ok (.getfield 57, 3) := by decide +kernel
theorem dA_moveUpTo_98 : decode prog_1_method_25_code 98 = .ok (.aload_n 0, 1) := by decide +kernel
theorem dA_moveUpTo_99 : decode prog_1_method_25_code 99 = .ok (.getfield 19, 3) := by decide +kernel
theorem dA_moveUpTo_102 : decode prog_1_method_25_code 102 = .ok (.invokevirtual 79, 3) := by decide +kernel
theorem dA_moveUpTo_105 : decode prog_1_method_25_code 105 = .ok (.iconst 1, 1) := by decide +kernel
theorem dA_moveUpTo_106 : decode prog_1_method_25_code 106 = .ok (.ireturn, 1) := by decide +kernel
theorem dB_length_0 : decode prog_2_method_2_code 0 = .ok (.aload_n 0, 1) := by decide +kernel
theorem dB_length_1 : decode prog_2_method_2_code 1 = .ok (.getfield 9, 3) := by decide +kernel
theorem dB_length_4 : decode prog_2_method_2_code 4 = .ok (.iload_n 1, 1) := by decide +kernel
theorem dB_length_5 : decode prog_2_method_2_code 5 = .ok (.iaload, 1) := by decide +kernel
theorem dB_length_6 : decode prog_2_method_2_code 6 = .ok (.ireturn, 1) := by decide +kernel
theorem dB_read_0 : decode prog_2_method_3_code 0 = .ok (.aload_n 0, 1) := by decide +kernel
theorem dB_read_1 : decode prog_2_method_3_code 1 = .ok (.getfield 15, 3) := by decide +kernel
theorem dB_read_4 : decode prog_2_method_3_code 4 = .ok (.iload_n 1, 1) := by decide +kernel
theorem dB_read_5 : decode prog_2_method_3_code 5 = .ok (.laload, 1) := by decide +kernel
theorem dB_read_6 : decode prog_2_method_3_code 6 = .ok (.iconst 2, 1) := by decide +kernel
theorem dB_read_7 : decode prog_2_method_3_code 7 = .ok (.iload_n 2, 1) := by decide +kernel
theorem dB_read_8 : decode prog_2_method_3_code 8 = .ok (.imul, 1) := by decide +kernel
theorem dB_read_9 : decode prog_2_method_3_code 9 = .ok (.lushr, 1) := by decide +kernel
theorem dB_read_10 : decode prog_2_method_3_code 10 = .ok (.l2i, 1) := by decide +kernel
theorem dB_read_11 : decode prog_2_method_3_code 11 = .ok (.iconst 3, 1) := by decide +kernel
theorem dB_read_12 : decode prog_2_method_3_code 12 = .ok (.iand, 1) := by decide +kernel
theorem dB_read_13 : decode prog_2_method_3_code 13 = .ok (.ireturn, 1) := by decide +kernel
theorem dB_write_0 : decode prog_2_method_4_code 0 = .ok (.aload_n 0, 1) := by decide +kernel
theorem dB_write_1 : decode prog_2_method_4_code 1 = .ok (.getfield 15, 3) := by decide +kernel
theorem dB_write_4 : decode prog_2_method_4_code 4 = .ok (.iload_n 1, 1) := by decide +kernel
theorem dB_write_5 : decode prog_2_method_4_code 5 = .ok (.laload, 1) := by decide +kernel
theorem dB_write_6 : decode prog_2_method_4_code 6 = .ok (.ldc2_w 19, 3) := by decide +kernel
theorem dB_write_9 : decode prog_2_method_4_code 9 = .ok (.iconst 2, 1) := by decide +kernel
theorem dB_write_10 : decode prog_2_method_4_code 10 = .ok (.iload_n 2, 1) := by decide +kernel
theorem dB_write_11 : decode prog_2_method_4_code 11 = .ok (.imul, 1) := by decide +kernel
theorem dB_write_12 : decode prog_2_method_4_code 12 = .ok (.lshl, 1) := by decide +kernel
theorem dB_write_13 : decode prog_2_method_4_code 13 = .ok (.ldc2_w 21, 3) := by decide +kernel
theorem dB_write_16 : decode prog_2_method_4_code 16 = .ok (.lxor, 1) := by decide +kernel
theorem dB_write_17 : decode prog_2_method_4_code 17 = .ok (.land, 1) := by decide +kernel
theorem dB_write_18 : decode prog_2_method_4_code 18 = .ok (.lstore 4, 2) := by decide +kernel
theorem dB_write_20 : decode prog_2_method_4_code 20 = .ok (.aload_n 0, 1) := by decide +kernel
theorem dB_write_21 : decode prog_2_method_4_code 21 = .ok (.getfield 15, 3) := by decide +kernel
theorem dB_write_24 : decode prog_2_method_4_code 24 = .ok (.iload_n 1, 1) := by decide +kernel
theorem dB_write_25 : decode prog_2_method_4_code 25 = .ok (.lload 4, 2) := by decide +kernel
theorem dB_write_27 : decode prog_2_method_4_code 27 = .ok (.iload_n 3, 1) := by decide +kernel
theorem dB_write_28 : decode prog_2_method_4_code 28 = .ok (.i2l, 1) := by decide +kernel
theorem dB_write_29 : decode prog_2_method_4_code 29 = .ok (.iconst 2, 1) := by decide +kernel
theorem dB_write_30 : decode prog_2_method_4_code 30 = .ok (.iload_n 2, 1) := by decide +kernel
theorem dB_write_31 : decode prog_2_method_4_code 31 = .ok (.imul, 1) := by decide +kernel
theorem dB_write_32 : decode prog_2_method_4_code 32 = .ok (.lshl, 1) := by decide +kernel
theorem dB_write_33 : decode prog_2_method_4_code 33 = .ok (.lor, 1) := by decide +kernel
theorem dB_write_34 : decode prog_2_method_4_code 34 = .ok (.lastore, 1) := by decide +kernel
theorem dB_write_35 : decode prog_2_method_4_code 35 = .ok (.return_, 1) := by decide +kernel
theorem dB_fill_0 : decode prog_2_method_5_code 0 = .ok (.aload_n 0, 1) := by decide +kernel
theorem dB_fill_1 : decode prog_2_method_5_code 1 = .ok (.getfield 9, 3) := by decide +kernel
theorem dB_fill_4 : decode prog_2_method_5_code 4 = .ok (.iload_n 1, 1) := by decide +kernel
theorem dB_fill_5 : decode prog_2_method_5_code 5 = .ok (.iconst 0, 1) := by decide +kernel
theorem dB_fill_6 : decode prog_2_method_5_code 6 = .ok (.iastore, 1) := by decide +kernel
theorem dB_fill_7 : decode prog_2_method_5_code 7 = .ok (.iconst 0, 1) := by decide +kernel
theorem dB_fill_8 : decode prog_2_method_5_code 8 = .ok (.istore_n 3, 1) := by decide +kernel
theorem dB_fill_9 : decode prog_2_method_5_code 9 = .ok (.iload_n 3, 1) := by decide +kernel
theorem dB_fill_10 : decode prog_2_method_5_code 10 = .ok (.iload_n 2, 1) := by decide +kernel
theorem dB_fill_11 : decode prog_2_method_5_code 11 = .ok (.if_icmp .ge (15), 3) := by decide +kernel
theorem dB_fill_14 : decode prog_2_method_5_code 14 = .ok (.aload_n 0, 1) := by decide +kernel
theorem dB_fill_15 : decode prog_2_method_5_code 15 = .ok (.iload_n 1, 1) := by decide +kernel
theorem dB_fill_16 : decode prog_2_method_5_code 16 = .ok (.iconst 2, 1) := by decide +kernel
theorem dB_fill_17 : decode prog_2_method_5_code 17 = .ok (.invokevirtual 23, 3) := by decide +kernel
theorem dB_fill_20 : decode prog_2_method_5_code 20 = .ok (.iinc 3 (1), 3) := by decide +kernel
theorem dB_fill_23 : decode prog_2_method_5_code 23 = .ok (.goto (-14), 3) := by decide +kernel
theorem dB_fill_26 : decode prog_2_method_5_code 26 = .ok (.return_, 1) := by decide +kernel
theorem dB_takeAtSink_0 : decode prog_2_method_6_code 0 = .ok (.aload_n 0, 1) := by decide +kernel
theorem dB_takeAtSink_1 : decode prog_2_method_6_code 1 = .ok (.iload_n 1, 1) := by decide +kernel
theorem dB_takeAtSink_2 : decode prog_2_method_6_code 2 = .ok (.iconst 0, 1) := by decide +kernel
theorem dB_takeAtSink_3 : decode prog_2_method_6_code 3 = .ok (.invokevirtual 27, 3) := by decide +kernel
theorem dB_takeAtSink_6 : decode prog_2_method_6_code 6 = .ok (.istore_n 2, 1) := by decide +kernel
theorem dB_takeAtSink_7 : decode prog_2_method_6_code 7 = .ok (.aload_n 0, 1) := by decide +kernel
theorem dB_takeAtSink_8 : decode prog_2_method_6_code 8 = .ok (.getfield 15, 3) := by decide +kernel
theorem dB_takeAtSink_11 : decode prog_2_method_6_code 11 = .ok (.iload_n 1, 1) := by decide +kernel
theorem dB_takeAtSink_12 : decode prog_2_method_6_code 12 = .ok (.dup2, 1) := by decide +kernel
theorem dB_takeAtSink_13 : decode prog_2_method_6_code 13 = .ok (.laload, 1) := by decide +kernel
theorem dB_takeAtSink_14 : decode prog_2_method_6_code 14 = .ok (.iconst 2, 1) := by decide +kernel
theorem dB_takeAtSink_15 : decode prog_2_method_6_code 15 = .ok (.lushr, 1) := by decide +kernel
theorem dB_takeAtSink_16 : decode prog_2_method_6_code 16 = .ok (.lastore, 1) := by decide +kernel
theorem dB_takeAtSink_17 : decode prog_2_method_6_code 17 = .ok (.aload_n 0, 1) := by decide +kernel
theorem dB_takeAtSink_18 : decode prog_2_method_6_code 18 = .ok (.getfield 9, 3) := by decide +kernel
theorem dB_takeAtSink_21 : decode prog_2_method_6_code 21 = .ok (.iload_n 1, 1) := by decide +kernel
theorem dB_takeAtSink_22 : decode prog_2_method_6_code 22 = .ok (.dup2, 1) := by decide +kernel
theorem dB_takeAtSink_23 : decode prog_2_method_6_code 23 = .ok (.iaload, 1) := by decide +kernel
theorem dB_takeAtSink_24 : decode prog_2_method_6_code 24 = .ok (.iconst 1, 1) := by decide +kernel
theorem dB_takeAtSink_25 : decode prog_2_method_6_code 25 = .ok (.isub, 1) := by decide +kernel
theorem dB_takeAtSink_26 : decode prog_2_method_6_code 26 = .ok (.iastore, 1) := by decide +kernel
theorem dB_takeAtSink_27 : decode prog_2_method_6_code 27 = .ok (.iload_n 2, 1) := by decide +kernel
theorem dB_takeAtSink_28 : decode prog_2_method_6_code 28 = .ok (.ireturn, 1) := by decide +kernel
theorem dB_putAtSink_0 : decode prog_2_method_7_code 0 = .ok (.aload_n 0, 1) := by decide +kernel
theorem dB_putAtSink_1 : decode prog_2_method_7_code 1 = .ok (.getfield 15, 3) := by decide +kernel
theorem dB_putAtSink_4 : decode prog_2_method_7_code 4 = .ok (.iload_n 1, 1) := by decide +kernel
theorem dB_putAtSink_5 : decode prog_2_method_7_code 5 = .ok (.aload_n 0, 1) := by decide +kernel
theorem dB_putAtSink_6 : decode prog_2_method_7_code 6 = .ok (.getfield 15, 3) := by decide +kernel
theorem dB_putAtSink_9 : decode prog_2_method_7_code 9 = .ok (.iload_n 1, 1) := by decide +kernel
theorem dB_putAtSink_10 : decode prog_2_method_7_code 10 = .ok (.laload, 1) := by decide +kernel
theorem dB_putAtSink_11 : decode prog_2_method_7_code 11 = .ok (.iconst 2, 1) := by decide +kernel
theorem dB_putAtSink_12 : decode prog_2_method_7_code 12 = .ok (.lshl, 1) := by decide +kernel
theorem dB_putAtSink_13 : decode prog_2_method_7_code 13 = .ok (.iload_n 2, 1) := by decide +kernel
theorem dB_putAtSink_14 : decode prog_2_method_7_code 14 = .ok (.i2l, 1) := by decide +kernel
theorem dB_putAtSink_15 : decode prog_2_method_7_code 15 = .ok (.lor, 1) := by decide +kernel
theorem dB_putAtSink_16 : decode prog_2_method_7_code 16 = .ok (.lastore, 1) := by decide +kernel
theorem dB_putAtSink_17 : decode prog_2_method_7_code 17 = .ok (.aload_n 0, 1) := by decide +kernel
theorem dB_putAtSink_18 : decode prog_2_method_7_code 18 = .ok (.getfield 9, 3) := by decide +kernel
theorem dB_putAtSink_21 : decode prog_2_method_7_code 21 = .ok (.iload_n 1, 1) := by decide +kernel
theorem dB_putAtSink_22 : decode prog_2_method_7_code 22 = .ok (.dup2, 1) := by decide +kernel
theorem dB_putAtSink_23 : decode prog_2_method_7_code 23 = .ok (.iaload, 1) := by decide +kernel
theorem dB_putAtSink_24 : decode prog_2_method_7_code 24 = .ok (.iconst 1, 1) := by decide +kernel
theorem dB_putAtSink_25 : decode prog_2_method_7_code 25 = .ok (.iadd, 1) := by decide +kernel
theorem dB_putAtSink_26 : decode prog_2_method_7_code 26 = .ok (.iastore, 1) := by decide +kernel
theorem dB_putAtSink_27 : decode prog_2_method_7_code 27 = .ok (.return_, 1) := by decide +kernel
theorem dB_takeAtSource_0 : decode prog_2_method_8_code 0 = .ok (.aload_n 0, 1) := by decide +kernel
theorem dB_takeAtSource_1 : decode prog_2_method_8_code 1 = .ok (.getfield 9, 3) := by decide +kernel
theorem dB_takeAtSource_4 : decode prog_2_method_8_code 4 = .ok (.iload_n 1, 1) := by decide +kernel
theorem dB_takeAtSource_5 : decode prog_2_method_8_code 5 = .ok (.dup2, 1) := by decide +kernel
theorem dB_takeAtSource_6 : decode prog_2_method_8_code 6 = .ok (.iaload, 1) := by decide +kernel
theorem dB_takeAtSource_7 : decode prog_2_method_8_code 7 = .ok (.iconst 1, 1) := by decide +kernel
theorem dB_takeAtSource_8 : decode prog_2_method_8_code 8 = .ok (.isub, 1) := by decide +kernel
theorem dB_takeAtSource_9 : decode prog_2_method_8_code 9 = .ok (.iastore, 1) := by decide +kernel
theorem dB_takeAtSource_10 : decode prog_2_method_8_code 10 = .ok (.aload_n 0, 1) := by decide +kernel
theorem dB_takeAtSource_11 : decode prog_2_method_8_code 11 = .ok (.iload_n 1, 1) := by decide +kernel
theorem dB_takeAtSource_12 : decode prog_2_method_8_code 12 = .ok (.aload_n 0, 1) := by decide +kernel
theorem dB_takeAtSource_13 : decode prog_2_method_8_code 13 = .ok (.getfield 9, 3) := by decide +kernel
theorem dB_takeAtSource_16 : decode prog_2_method_8_code 16 = .ok (.iload_n 1, 1) := by decide +kernel
theorem dB_takeAtSource_17 : decode prog_2_method_8_code 17 = .ok (.iaload, 1) := by decide +kernel
theorem dB_takeAtSource_18 : decode prog_2_method_8_code 18 = .ok (.invokevirtual 27, 3) := by decide +kernel
theorem dB_takeAtSource_21 : decode prog_2_method_8_code 21 = .ok (.ireturn, 1) := by decide +kernel
theorem dB_putAtSource_0 : decode prog_2_method_9_code 0 = .ok (.aload_n 0, 1) := by decide +kernel
theorem dB_putAtSource_1 : decode prog_2_method_9_code 1 = .ok (.iload_n 1, 1) := by decide +kernel
theorem dB_putAtSource_2 : decode prog_2_method_9_code 2 = .ok (.aload_n 0, 1) := by decide +kernel
theorem dB_putAtSource_3 : decode prog_2_method_9_code 3 = .ok (.getfield 9, 3) := by decide +kernel
theorem dB_putAtSource_6 : decode prog_2_method_9_code 6 = .ok (.iload_n 1, 1) := by decide +kernel
theorem dB_putAtSource_7 : decode prog_2_method_9_code 7 = .ok (.iaload, 1) := by decide +kernel
theorem dB_putAtSource_8 : decode prog_2_method_9_code 8 = .ok (.iload_n 2, 1) := by decide +kernel
theorem dB_putAtSource_9 : decode prog_2_method_9_code 9 = .ok (.invokevirtual 31, 3) := by decide +kernel
theorem dB_putAtSource_12 : decode prog_2_method_9_code 12 = .ok (.aload_n 0, 1) := by decide +kernel
theorem dB_putAtSource_13 : decode prog_2_method_9_code 13 = .ok (.getfield 9, 3) := by decide +kernel
theorem dB_putAtSource_16 : decode prog_2_method_9_code 16 = .ok (.iload_n 1, 1) := by decide +kernel
theorem dB_putAtSource_17 : decode prog_2_method_9_code 17 = .ok (.dup2, 1) := by decide +kernel
theorem dB_putAtSource_18 : decode prog_2_method_9_code 18 = .ok (.iaload, 1) := by decide +kernel
theorem dB_putAtSource_19 : decode prog_2_method_9_code 19 = .ok (.iconst 1, 1) := by decide +kernel
theorem dB_putAtSource_20 : decode prog_2_method_9_code 20 = .ok (.iadd, 1) := by decide +kernel
theorem dB_putAtSource_21 : decode prog_2_method_9_code 21 = .ok (.iastore, 1) := by decide +kernel
theorem dB_putAtSource_22 : decode prog_2_method_9_code 22 = .ok (.return_, 1) := by decide +kernel
theorem dB_copy_0 : decode prog_2_method_10_code 0 = .ok (.aload_n 1, 1) := by decide +kernel
theorem dB_copy_1 : decode prog_2_method_10_code 1 = .ok (.getfield 9, 3) := by decide +kernel
theorem dB_copy_4 : decode prog_2_method_10_code 4 = .ok (.iconst 0, 1) := by decide +kernel
theorem dB_copy_5 : decode prog_2_method_10_code 5 = .ok (.aload_n 0, 1) := by decide +kernel
theorem dB_copy_6 : decode prog_2_method_10_code 6 = .ok (.getfield 9, 3) := by decide +kernel
theorem dB_copy_9 : decode prog_2_method_10_code 9 = .ok (.iconst 0, 1) := by decide +kernel
theorem dB_copy_10 : decode prog_2_method_10_code 10 = .ok (.bipush (27), 2) := by decide +kernel
theorem dB_copy_12 : decode prog_2_method_10_code 12 = .ok (.invokestatic 35, 3) := by decide +kernel
theorem dB_copy_15 : decode prog_2_method_10_code 15 = .ok (.aload_n 1, 1) := by decide +kernel
theorem dB_copy_16 : decode prog_2_method_10_code 16 = .ok (.getfield 15, 3) := by decide +kernel
theorem dB_copy_19 : decode prog_2_method_10_code 19 = .ok (.iconst 0, 1) := by decide +kernel
theorem dB_copy_20 : decode prog_2_method_10_code 20 = .ok (.aload_n 0, 1) := by decide +kernel
theorem dB_copy_21 : decode prog_2_method_10_code 21 = .ok (.getfield 15, 3) := by decide +kernel
theorem dB_copy_24 : decode prog_2_method_10_code 24 = .ok (.iconst 0, 1) := by decide +kernel
theorem dB_copy_25 : decode prog_2_method_10_code 25 = .ok (.bipush (27), 2) := by decide +kernel
theorem dB_copy_27 : decode prog_2_method_10_code 27 = .ok (.invokestatic 35, 3) := by decide +kernel
theorem dB_copy_30 : decode prog_2_method_10_code 30 = .ok (.return_, 1) := by decide +kernel
theorem dC_begin_0 : decode prog_3_method_2_code 0 = .ok (.aload_n 0, 1) := by decide +kernel
theorem dC_begin_1 : decode prog_3_method_2_code 1 = .ok (.getfield 12, 3) := by decide +kernel
theorem dC_begin_4 : decode prog_3_method_2_code 4 = .ok (.aload_n 1, 1) := by decide +kernel
theorem dC_begin_5 : decode prog_3_method_2_code 5 = .ok (.invokevirtual 22, 3) := by decide +kernel
theorem dC_begin_8 : decode prog_3_method_2_code 8 = .ok (.return_, 1) := by decide +kernel
theorem dC_setInputs_0 : decode prog_3_method_3_code 0 = .ok (.aload_n 0, 1) := by decide +kernel
theorem dC_setInputs_1 : decode prog_3_method_3_code 1 = .ok (.getfield 18, 3) := by decide +kernel
theorem dC_setInputs_4 : decode prog_3_method_3_code 4 = .ok (.iconst 2, 1) := by decide +kernel
theorem dC_setInputs_5 : decode prog_3_method_3_code 5 = .ok (.iload_n 1, 1) := by decide +kernel
theorem dC_setInputs_6 : decode prog_3_method_3_code 6 = .ok (.iastore, 1) := by decide +kernel
theorem dC_setInputs_7 : decode prog_3_method_3_code 7 = .ok (.aload_n 0, 1) := by decide +kernel
theorem dC_setInputs_8 : decode prog_3_method_3_code 8 = .ok (.getfield 18, 3) := by decide +kernel
theorem dC_setInputs_11 : decode prog_3_method_3_code 11 = .ok (.iconst 1, 1) := by decide +kernel
theorem dC_setInputs_12 : decode prog_3_method_3_code 12 = .ok (.iload_n 2, 1) := by decide +kernel
theorem dC_setInputs_13 : decode prog_3_method_3_code 13 = .ok (.iastore, 1) := by decide +kernel
theorem dC_setInputs_14 : decode prog_3_method_3_code 14 = .ok (.aload_n 0, 1) := by decide +kernel
theorem dC_setInputs_15 : decode prog_3_method_3_code 15 = .ok (.getfield 18, 3) := by decide +kernel
theorem dC_setInputs_18 : decode prog_3_method_3_code 18 = .ok (.iconst 0, 1) := by decide +kernel
theorem dC_setInputs_19 : decode prog_3_method_3_code 19 = .ok (.iload_n 3, 1) := by decide +kernel
theorem dC_setInputs_20 : decode prog_3_method_3_code 20 = .ok (.iastore, 1) := by decide +kernel
theorem dC_setInputs_21 : decode prog_3_method_3_code 21 = .ok (.return_, 1) := by decide +kernel
theorem dC_settle_0 : decode prog_3_method_4_code 0 = .ok (.iconst 0, 1) := by decide +kernel
theorem dC_settle_1 : decode prog_3_method_4_code 1 = .ok (.istore_n 3, 1) := by decide +kernel
theorem dC_settle_2 : decode prog_3_method_4_code 2 = .ok (.iload_n 3, 1) := by decide +kernel
theorem dC_settle_3 : decode prog_3_method_4_code 3 = .ok (.aload_n 1, 1) := by decide +kernel
theorem dC_settle_4 : decode prog_3_method_4_code 4 = .ok (.getfield 26, 3) := by decide +kernel
theorem dC_settle_7 : decode prog_3_method_4_code 7 = .ok (.if_icmp .ge (82), 3) := by decide +kernel
theorem dC_settle_10 : decode prog_3_method_4_code 10 = .ok (.aload_n 2, 1) := by decide +kernel
theorem dC_settle_11 : decode prog_3_method_4_code 11 = .ok (.getfield 32, 3) := by decide +kernel
theorem dC_settle_14 : decode prog_3_method_4_code 14 = .ok (.iload_n 3, 1) := by decide +kernel
theorem dC_settle_15 : decode prog_3_method_4_code 15 = .ok (.iaload, 1) := by decide +kernel
theorem dC_settle_16 : decode prog_3_method_4_code 16 = .ok (.istore 4, 2) := by decide +kernel
theorem dC_settle_18 : decode prog_3_method_4_code 18 = .ok (.aload_n 1, 1) := by decide +kernel
theorem dC_settle_19 : decode prog_3_method_4_code 19 = .ok (.iload 4, 2) := by decide +kernel
theorem dC_settle_21 : decode prog_3_method_4_code 21 = .ok (.invokevirtual 37, 3) := by decide +kernel
theorem dC_settle_24 : decode prog_3_method_4_code 24 = .ok (.istore 5, 2) := by decide +kernel
theorem dC_settle_26 : decode prog_3_method_4_code 26 = .ok (.aload_n 0, 1) := by decide +kernel
theorem dC_settle_27 : decode prog_3_method_4_code 27 = .ok (.aload_n 1, 1) := by decide +kernel
theorem dC_settle_28 : decode prog_3_method_4_code 28 = .ok (.iload 5, 2) := by decide +kernel
theorem dC_settle_30 : decode prog_3_method_4_code 30 = .ok (.invokevirtual 41, 3) := by decide +kernel
theorem dC_settle_33 : decode prog_3_method_4_code 33 = .ok (.istore 6, 2) := by decide +kernel
theorem dC_settle_35 : decode prog_3_method_4_code 35 = .ok (.aload_n 1, 1) := by decide +kernel
theorem dC_settle_36 : decode prog_3_method_4_code 36 = .ok (.iload 4, 2) := by decide +kernel
theorem dC_settle_38 : decode prog_3_method_4_code 38 = .ok (.invokevirtual 45, 3) := by decide +kernel
theorem dC_settle_41 : decode prog_3_method_4_code 41 = .ok (.iconst 2, 1) := by decide +kernel
theorem dC_settle_42 : decode prog_3_method_4_code 42 = .ok (.if_icmp .ne (15), 3) := by decide +kernel
theorem dC_settle_45 : decode prog_3_method_4_code 45 = .ok (.aload_n 0, 1) := by decide +kernel
theorem dC_settle_46 : decode prog_3_method_4_code 46 = .ok (.aload_n 1, 1) := by decide +kernel
theorem dC_settle_47 : decode prog_3_method_4_code 47 = .ok (.iload 5, 2) := by decide +kernel
theorem dC_settle_49 : decode prog_3_method_4_code 49 = .ok (.iconst 1, 1) := by decide +kernel
theorem dC_settle_50 : decode prog_3_method_4_code 50 = .ok (.iadd, 1) := by decide +kernel
theorem dC_settle_51 : decode prog_3_method_4_code 51 = .ok (.invokevirtual 41, 3) := by decide +kernel
theorem dC_settle_54 : decode prog_3_method_4_code 54 = .ok (.goto (4), 3) := by decide +kernel
theorem dC_settle_57 : decode prog_3_method_4_code 57 = .ok (.iconst 2, 1) := by decide +kernel
theorem dC_settle_58 : decode prog_3_method_4_code 58 = .ok (.istore 7, 2) := by decide +kernel
theorem dC_settle_60 : decode prog_3_method_4_code 60 = .ok (.aload_n 0, 1) := by decide +kernel
theorem dC_settle_61 : decode prog_3_method_4_code 61 = .ok (.getfield 18, 3) := by decide +kernel
theorem dC_settle_64 : decode prog_3_method_4_code 64 = .ok (.iconst 3, 1) := by decide +kernel
theorem dC_settle_65 : decode prog_3_method_4_code 65 = .ok (.iload 4, 2) := by decide +kernel
theorem dC_settle_67 : decode prog_3_method_4_code 67 = .ok (.iadd, 1) := by decide +kernel
theorem dC_settle_68 : decode prog_3_method_4_code 68 = .ok (.aload_n 1, 1) := by decide +kernel
theorem dC_settle_69 : decode prog_3_method_4_code 69 = .ok (.getfield 48, 3) := by decide +kernel
theorem dC_settle_72 : decode prog_3_method_4_code 72 = .ok (.iload 4, 2) := by decide +kernel
theorem dC_settle_74 : decode prog_3_method_4_code 74 = .ok (.iaload, 1) := by decide +kernel
theorem dC_settle_75 : decode prog_3_method_4_code 75 = .ok (.iload 6, 2) := by decide +kernel
theorem dC_settle_77 : decode prog_3_method_4_code 77 = .ok (.iload 7, 2) := by decide +kernel
theorem dC_settle_79 : decode prog_3_method_4_code 79 = .ok (.invokestatic 51, 3) := by decide +kernel
theorem dC_settle_82 : decode prog_3_method_4_code 82 = .ok (.iastore, 1) := by decide +kernel
theorem dC_settle_83 : decode prog_3_method_4_code 83 = .ok (.iinc 3 (1), 3) := by decide +kernel
theorem dC_settle_86 : decode prog_3_method_4_code 86 = .ok (.goto (-84), 3) := by decide +kernel
theorem dC_settle_89 : decode prog_3_method_4_code 89 = .ok (.return_, 1) := by decide +kernel
theorem dC_outputs_0 : decode prog_3_method_5_code 0 = .ok (.iconst 0, 1) := by decide +kernel
theorem dC_outputs_1 : decode prog_3_method_5_code 1 = .ok (.istore_n 2, 1) := by decide +kernel
theorem dC_outputs_2 : decode prog_3_method_5_code 2 = .ok (.bipush (26), 2) := by decide +kernel
theorem dC_outputs_4 : decode prog_3_method_5_code 4 = .ok (.istore_n 3, 1) := by decide +kernel
theorem dC_outputs_5 : decode prog_3_method_5_code 5 = .ok (.iload_n 3, 1) := by decide +kernel
theorem dC_outputs_6 : decode prog_3_method_5_code 6 = .ok (.bipush (24), 2) := by decide +kernel
theorem dC_outputs_8 : decode prog_3_method_5_code 8 = .ok (.if_icmp .lt (37), 3) := by decide +kernel
theorem dC_outputs_11 : decode prog_3_method_5_code 11 = .ok (.aload_n 1, 1) := by decide +kernel
theorem dC_outputs_12 : decode prog_3_method_5_code 12 = .ok (.getfield 57, 3) := by decide +kernel
theorem dC_outputs_15 : decode prog_3_method_5_code 15 = .ok (.iload_n 3, 1) := by decide +kernel
theorem dC_outputs_16 : decode prog_3_method_5_code 16 = .ok (.iaload, 1) := by decide +kernel
theorem dC_outputs_17 : decode prog_3_method_5_code 17 = .ok (.ifCond .ne (7), 3) := by decide +kernel
theorem dC_outputs_20 : decode prog_3_method_5_code 20 = .ok (.iconst 3, 1) := by decide +kernel
theorem dC_outputs_21 : decode prog_3_method_5_code 21 = .ok (.goto (9), 3) := by decide +kernel
theorem dC_outputs_24 : decode prog_3_method_5_code 24 = .ok (.aload_n 0, 1) := by decide +kernel
theorem dC_outputs_25 : decode prog_3_method_5_code 25 = .ok (.aload_n 1, 1) := by decide +kernel
theorem dC_outputs_26 : decode prog_3_method_5_code 26 = .ok (.iload_n 3, 1) := by decide +kernel
theorem dC_outputs_27 : decode prog_3_method_5_code 27 = .ok (.invokevirtual 41, 3) := by decide +kernel
theorem dC_outputs_30 : decode prog_3_method_5_code 30 = .ok (.istore 4, 2) := by decide +kernel
theorem dC_outputs_32 : decode prog_3_method_5_code 32 = .ok (.iconst 4, 1) := by decide +kernel
theorem dC_outputs_33 : decode prog_3_method_5_code 33 = .ok (.iload_n 2, 1) := by decide +kernel
theorem dC_outputs_34 : decode prog_3_method_5_code 34 = .ok (.imul, 1) := by decide +kernel
theorem dC_outputs_35 : decode prog_3_method_5_code 35 = .ok (.iload 4, 2) := by decide +kernel
theorem dC_outputs_37 : decode prog_3_method_5_code 37 = .ok (.iadd, 1) := by decide +kernel
theorem dC_outputs_38 : decode prog_3_method_5_code 38 = .ok (.istore_n 2, 1) := by decide +kernel
theorem dC_outputs_39 : decode prog_3_method_5_code 39 = .ok (.iinc 3 (-1), 3) := by decide +kernel
theorem dC_outputs_42 : decode prog_3_method_5_code 42 = .ok (.goto (-37), 3) := by decide +kernel
theorem dC_outputs_45 : decode prog_3_method_5_code 45 = .ok (.iload_n 2, 1) := by decide +kernel
theorem dC_outputs_46 : decode prog_3_method_5_code 46 = .ok (.ireturn, 1) := by decide +kernel
theorem dC_shift_0 : decode prog_3_method_6_code 0 = .ok (.iconst 0, 1) := by decide +kernel
theorem dC_shift_1 : decode prog_3_method_6_code 1 = .ok (.istore_n 2, 1) := by decide +kernel
theorem dC_shift_2 : decode prog_3_method_6_code 2 = .ok (.iload_n 2, 1) := by decide +kernel
theorem dC_shift_3 : decode prog_3_method_6_code 3 = .ok (.bipush (27), 2) := by decide +kernel
theorem dC_shift_5 : decode prog_3_method_6_code 5 = .ok (.if_icmp .ge (50), 3) := by decide +kernel
theorem dC_shift_8 : decode prog_3_method_6_code 8 = .ok (.aload_n 0, 1) := by decide +kernel
theorem dC_shift_9 : decode prog_3_method_6_code 9 = .ok (.getfield 12, 3) := by decide +kernel
theorem dC_shift_12 : decode prog_3_method_6_code 12 = .ok (.iload_n 2, 1) := by decide +kernel
theorem dC_shift_13 : decode prog_3_method_6_code 13 = .ok (.invokevirtual 60, 3) := by decide +kernel
theorem dC_shift_16 : decode prog_3_method_6_code 16 = .ok (.ifCond .le (33), 3) := by decide +kernel
theorem dC_shift_19 : decode prog_3_method_6_code 19 = .ok (.aload_n 0, 1) := by decide +kernel
theorem dC_shift_20 : decode prog_3_method_6_code 20 = .ok (.getfield 12, 3) := by decide +kernel
theorem dC_shift_23 : decode prog_3_method_6_code 23 = .ok (.iload_n 2, 1) := by decide +kernel
theorem dC_shift_24 : decode prog_3_method_6_code 24 = .ok (.invokevirtual 63, 3) := by decide +kernel
theorem dC_shift_27 : decode prog_3_method_6_code 27 = .ok (.pop, 1) := by decide +kernel
theorem dC_shift_28 : decode prog_3_method_6_code 28 = .ok (.aload_n 0, 1) := by decide +kernel
theorem dC_shift_29 : decode prog_3_method_6_code 29 = .ok (.getfield 12, 3) := by decide +kernel
theorem dC_shift_32 : decode prog_3_method_6_code 32 = .ok (.iload_n 2, 1) := by decide +kernel
theorem dC_shift_33 : decode prog_3_method_6_code 33 = .ok (.aload_n 0, 1) := by decide +kernel
theorem dC_shift_34 : decode prog_3_method_6_code 34 = .ok (.getfield 18, 3) := by decide +kernel
theorem dC_shift_37 : decode prog_3_method_6_code 37 = .ok (.iconst 3, 1) := by decide +kernel
theorem dC_shift_38 : decode prog_3_method_6_code 38 = .ok (.aload_n 1, 1) := by decide +kernel
theorem dC_shift_39 : decode prog_3_method_6_code 39 = .ok (.getfield 57, 3) := by decide +kernel
theorem dC_shift_42 : decode prog_3_method_6_code 42 = .ok (.iload_n 2, 1) := by decide +kernel
theorem dC_shift_43 : decode prog_3_method_6_code 43 = .ok (.iaload, 1) := by decide +kernel
theorem dC_shift_44 : decode prog_3_method_6_code 44 = .ok (.iadd, 1) := by decide +kernel
theorem dC_shift_45 : decode prog_3_method_6_code 45 = .ok (.iaload, 1) := by decide +kernel
theorem dC_shift_46 : decode prog_3_method_6_code 46 = .ok (.invokevirtual 66, 3) := by decide +kernel
theorem dC_shift_49 : decode prog_3_method_6_code 49 = .ok (.iinc 2 (1), 3) := by decide +kernel
theorem dC_shift_52 : decode prog_3_method_6_code 52 = .ok (.goto (-50), 3) := by decide +kernel
theorem dC_shift_55 : decode prog_3_method_6_code 55 = .ok (.return_, 1) := by decide +kernel
theorem dC_valueOf_0 : decode prog_3_method_7_code 0 = .ok (.aload_n 0, 1) := by decide +kernel
theorem dC_valueOf_1 : decode prog_3_method_7_code 1 = .ok (.getfield 12, 3) := by decide +kernel
theorem dC_valueOf_4 : decode prog_3_method_7_code 4 = .ok (.iload_n 2, 1) := by decide +kernel
theorem dC_valueOf_5 : decode prog_3_method_7_code 5 = .ok (.invokevirtual 60, 3) := by decide +kernel
theorem dC_valueOf_8 : decode prog_3_method_7_code 8 = .ok (.ifCond .le (15), 3) := by decide +kernel
theorem dC_valueOf_11 : decode prog_3_method_7_code 11 = .ok (.aload_n 0, 1) := by decide +kernel
theorem dC_valueOf_12 : decode prog_3_method_7_code 12 = .ok (.getfield 12, 3) := by decide +kernel
theorem dC_valueOf_15 : decode prog_3_method_7_code 15 = .ok (.iload_n 2, 1) := by decide +kernel
theorem dC_valueOf_16 : decode prog_3_method_7_code 16 = .ok (.iconst 0, 1) := by decide +kernel
theorem dC_valueOf_17 : decode prog_3_method_7_code 17 = .ok (.invokevirtual 70, 3) := by decide +kernel
theorem dC_valueOf_20 : decode prog_3_method_7_code 20 = .ok (.goto (16), 3) := by decide +kernel
theorem dC_valueOf_23 : decode prog_3_method_7_code 23 = .ok (.aload_n 0, 1) := by decide +kernel
theorem dC_valueOf_24 : decode prog_3_method_7_code 24 = .ok (.getfield 18, 3) := by decide +kernel
theorem dC_valueOf_27 : decode prog_3_method_7_code 27 = .ok (.iconst 3, 1) := by decide +kernel
theorem dC_valueOf_28 : decode prog_3_method_7_code 28 = .ok (.aload_n 1, 1) := by decide +kernel
theorem dC_valueOf_29 : decode prog_3_method_7_code 29 = .ok (.getfield 57, 3) := by decide +kernel
theorem dC_valueOf_32 : decode prog_3_method_7_code 32 = .ok (.iload_n 2, 1) := by decide +kernel
theorem dC_valueOf_33 : decode prog_3_method_7_code 33 = .ok (.iaload, 1) := by decide +kernel
theorem dC_valueOf_34 : decode prog_3_method_7_code 34 = .ok (.iadd, 1) := by decide +kernel
theorem dC_valueOf_35 : decode prog_3_method_7_code 35 = .ok (.iaload, 1) := by decide +kernel
theorem dC_valueOf_36 : decode prog_3_method_7_code 36 = .ok (.ireturn, 1) := by decide +kernel
theorem dL_set_0 : decode prog_4_method_2_code 0 = .ok (.iconst 0, 1) := by decide +kernel
theorem dL_set_1 : decode prog_4_method_2_code 1 = .ok (.istore 5, 2) := by decide +kernel
theorem dL_set_3 : decode prog_4_method_2_code 3 = .ok (.iload 5, 2) := by decide +kernel
theorem dL_set_5 : decode prog_4_method_2_code 5 = .ok (.aload_n 1, 1) := by decide +kernel
theorem dL_set_6 : decode prog_4_method_2_code 6 = .ok (.getfield 20, 3) := by decide +kernel
theorem dL_set_9 : decode prog_4_method_2_code 9 = .ok (.if_icmp .gt (40), 3) := by decide +kernel
theorem dL_set_12 : decode prog_4_method_2_code 12 = .ok (.iconst 0, 1) := by decide +kernel
theorem dL_set_13 : decode prog_4_method_2_code 13 = .ok (.istore 6, 2) := by decide +kernel
theorem dL_set_15 : decode prog_4_method_2_code 15 = .ok (.iload 6, 2) := by decide +kernel
theorem dL_set_17 : decode prog_4_method_2_code 17 = .ok (.aload_n 1, 1) := by decide +kernel
theorem dL_set_18 : decode prog_4_method_2_code 18 = .ok (.getfield 20, 3) := by decide +kernel
theorem dL_set_21 : decode prog_4_method_2_code 21 = .ok (.if_icmp .gt (22), 3) := by decide +kernel
theorem dL_set_24 : decode prog_4_method_2_code 24 = .ok (.aload_n 0, 1) := by decide +kernel
theorem dL_set_25 : decode prog_4_method_2_code 25 = .ok (.getfield 17, 3) := by decide +kernel
theorem dL_set_28 : decode prog_4_method_2_code 28 = .ok (.iload 5, 2) := by decide +kernel
theorem dL_set_30 : decode prog_4_method_2_code 30 = .ok (.aaload, 1) := by decide +kernel
theorem dL_set_31 : decode prog_4_method_2_code 31 = .ok (.iload 6, 2) := by decide +kernel
theorem dL_set_33 : decode prog_4_method_2_code 33 = .ok (.sipush (1000), 3) := by decide +kernel
theorem dL_set_36 : decode prog_4_method_2_code 36 = .ok (.iastore, 1) := by decide +kernel
theorem dL_set_37 : decode prog_4_method_2_code 37 = .ok (.iinc 6 (1), 3) := by decide +kernel
theorem dL_set_40 : decode prog_4_method_2_code 40 = .ok (.goto (-25), 3) := by decide +kernel
theorem dL_set_43 : decode prog_4_method_2_code 43 = .ok (.iinc 5 (1), 3) := by decide +kernel
theorem dL_set_46 : decode prog_4_method_2_code 46 = .ok (.goto (-43), 3) := by decide +kernel
theorem dL_set_49 : decode prog_4_method_2_code 49 = .ok (.iconst 0, 1) := by decide +kernel
theorem dL_set_50 : decode prog_4_method_2_code 50 = .ok (.istore 5, 2) := by decide +kernel
theorem dL_set_52 : decode prog_4_method_2_code 52 = .ok (.iload 5, 2) := by decide +kernel
theorem dL_set_54 : decode prog_4_method_2_code 54 = .ok (.bipush (27), 2) := by decide +kernel
theorem dL_set_56 : decode prog_4_method_2_code 56 = .ok (.if_icmp .ge (41), 3) := by decide +kernel
theorem dL_set_59 : decode prog_4_method_2_code 59 = .ok (.aload_n 1, 1) := by decide +kernel
theorem dL_set_60 : decode prog_4_method_2_code 60 = .ok (.getfield 26, 3) := by decide +kernel
theorem dL_set_63 : decode prog_4_method_2_code 63 = .ok (.iload 5, 2) := by decide +kernel
theorem dL_set_65 : decode prog_4_method_2_code 65 = .ok (.iaload, 1) := by decide +kernel
theorem dL_set_66 : decode prog_4_method_2_code 66 = .ok (.ifCond .eq (25), 3) := by decide +kernel
theorem dL_set_69 : decode prog_4_method_2_code 69 = .ok (.aload_n 0, 1) := by decide +kernel
theorem dL_set_70 : decode prog_4_method_2_code 70 = .ok (.aload_n 1, 1) := by decide +kernel
theorem dL_set_71 : decode prog_4_method_2_code 71 = .ok (.iload 5, 2) := by decide +kernel
theorem dL_set_73 : decode prog_4_method_2_code 73 = .ok (.invokevirtual 29, 3) := by decide +kernel
theorem dL_set_76 : decode prog_4_method_2_code 76 = .ok (.aload_n 1, 1) := by decide +kernel
theorem dL_set_77 : decode prog_4_method_2_code 77 = .ok (.iload 5, 2) := by decide +kernel
theorem dL_set_79 : decode prog_4_method_2_code 79 = .ok (.invokevirtual 33, 3) := by decide +kernel
theorem dL_set_82 : decode prog_4_method_2_code 82 = .ok (.aload_n 2, 1) := by decide +kernel
theorem dL_set_83 : decode prog_4_method_2_code 83 = .ok (.iload 5, 2) := by decide +kernel
theorem dL_set_85 : decode prog_4_method_2_code 85 = .ok (.invokevirtual 36, 3) := by decide +kernel
theorem dL_set_88 : decode prog_4_method_2_code 88 = .ok (.invokevirtual 41, 3) := by decide +kernel
theorem dL_set_91 : decode prog_4_method_2_code 91 = .ok (.iinc 5 (1), 3) := by decide +kernel
theorem dL_set_94 : decode prog_4_method_2_code 94 = .ok (.goto (-42), 3) := by decide +kernel
theorem dL_set_97 : decode prog_4_method_2_code 97 = .ok (.iconst 1, 1) := by decide +kernel
theorem dL_set_98 : decode prog_4_method_2_code 98 = .ok (.istore 5, 2) := by decide +kernel
theorem dL_set_100 : decode prog_4_method_2_code 100 = .ok (.iload 5, 2) := by decide +kernel
theorem dL_set_102 : decode prog_4_method_2_code 102 = .ok (.aload_n 1, 1) := by decide +kernel
theorem dL_set_103 : decode prog_4_method_2_code 103 = .ok (.getfield 20, 3) := by decide +kernel
theorem dL_set_106 : decode prog_4_method_2_code 106 = .ok (.if_icmp .gt (22), 3) := by decide +kernel
theorem dL_set_109 : decode prog_4_method_2_code 109 = .ok (.aload_n 0, 1) := by decide +kernel
theorem dL_set_110 : decode prog_4_method_2_code 110 = .ok (.aload_n 1, 1) := by decide +kernel
theorem dL_set_111 : decode prog_4_method_2_code 111 = .ok (.getfield 20, 3) := by decide +kernel
theorem dL_set_114 : decode prog_4_method_2_code 114 = .ok (.aload_n 3, 1) := by decide +kernel
theorem dL_set_115 : decode prog_4_method_2_code 115 = .ok (.iload 5, 2) := by decide +kernel
theorem dL_set_117 : decode prog_4_method_2_code 117 = .ok (.iload 4, 2) := by decide +kernel
theorem dL_set_119 : decode prog_4_method_2_code 119 = .ok (.invokevirtual 45, 3) := by decide +kernel
theorem dL_set_122 : decode prog_4_method_2_code 122 = .ok (.iinc 5 (1), 3) := by decide +kernel
theorem dL_set_125 : decode prog_4_method_2_code 125 = .ok (.goto (-25), 3) := by decide +kernel
theorem dL_set_128 : decode prog_4_method_2_code 128 = .ok (.return_, 1) := by decide +kernel
theorem dL_solve_0 : decode prog_4_method_3_code 0 = .ok (.aload_n 0, 1) := by decide +kernel
theorem dL_solve_1 : decode prog_4_method_3_code 1 = .ok (.getfield 9, 3) := by decide +kernel
theorem dL_solve_4 : decode prog_4_method_3_code 4 = .ok (.iconst 0, 1) := by decide +kernel
theorem dL_solve_5 : decode prog_4_method_3_code 5 = .ok (.iconst 0, 1) := by decide +kernel
theorem dL_solve_6 : decode prog_4_method_3_code 6 = .ok (.iastore, 1) := by decide +kernel
theorem dL_solve_7 : decode prog_4_method_3_code 7 = .ok (.iconst 1, 1) := by decide +kernel
theorem dL_solve_8 : decode prog_4_method_3_code 8 = .ok (.istore_n 3, 1) := by decide +kernel
theorem dL_solve_9 : decode prog_4_method_3_code 9 = .ok (.iload_n 3, 1) := by decide +kernel
theorem dL_solve_10 : decode prog_4_method_3_code 10 = .ok (.iload_n 1, 1) := by decide +kernel
theorem dL_solve_11 : decode prog_4_method_3_code 11 = .ok (.if_icmp .gt (16), 3) := by decide +kernel
theorem dL_solve_14 : decode prog_4_method_3_code 14 = .ok (.aload_n 0, 1) := by decide +kernel
theorem dL_solve_15 : decode prog_4_method_3_code 15 = .ok (.getfield 9, 3) := by decide +kernel
theorem dL_solve_18 : decode prog_4_method_3_code 18 = .ok (.iload_n 3, 1) := by decide +kernel
theorem dL_solve_19 : decode prog_4_method_3_code 19 = .ok (.iload_n 2, 1) := by decide +kernel
theorem dL_solve_20 : decode prog_4_method_3_code 20 = .ok (.iastore, 1) := by decide +kernel
theorem dL_solve_21 : decode prog_4_method_3_code 21 = .ok (.iinc 3 (1), 3) := by decide +kernel
theorem dL_solve_24 : decode prog_4_method_3_code 24 = .ok (.goto (-15), 3) := by decide +kernel
theorem dL_solve_27 : decode prog_4_method_3_code 27 = .ok (.iconst 0, 1) := by decide +kernel
theorem dL_solve_28 : decode prog_4_method_3_code 28 = .ok (.istore_n 3, 1) := by decide +kernel
theorem dL_solve_29 : decode prog_4_method_3_code 29 = .ok (.iload_n 3, 1) := by decide +kernel
theorem dL_solve_30 : decode prog_4_method_3_code 30 = .ok (.sipush (146), 3) := by decide +kernel
theorem dL_solve_33 : decode prog_4_method_3_code 33 = .ok (.if_icmp .ge (33), 3) := by decide +kernel
theorem dL_solve_36 : decode prog_4_method_3_code 36 = .ok (.aload_n 0, 1) := by decide +kernel
theorem dL_solve_37 : decode prog_4_method_3_code 37 = .ok (.iload_n 1, 1) := by decide +kernel
theorem dL_solve_38 : decode prog_4_method_3_code 38 = .ok (.invokevirtual 49, 3) := by decide +kernel
theorem dL_solve_41 : decode prog_4_method_3_code 41 = .ok (.istore 4, 2) := by decide +kernel
theorem dL_solve_43 : decode prog_4_method_3_code 43 = .ok (.aload_n 0, 1) := by decide +kernel
theorem dL_solve_44 : decode prog_4_method_3_code 44 = .ok (.iload_n 1, 1) := by decide +kernel
theorem dL_solve_45 : decode prog_4_method_3_code 45 = .ok (.invokevirtual 53, 3) := by decide +kernel
theorem dL_solve_48 : decode prog_4_method_3_code 48 = .ok (.ifCond .ne (5), 3) := by decide +kernel
theorem dL_solve_51 : decode prog_4_method_3_code 51 = .ok (.iconst 0, 1) := by decide +kernel
theorem dL_solve_52 : decode prog_4_method_3_code 52 = .ok (.ireturn, 1) := by decide +kernel
theorem dL_solve_53 : decode prog_4_method_3_code 53 = .ok (.iload 4, 2) := by decide +kernel
theorem dL_solve_55 : decode prog_4_method_3_code 55 = .ok (.ifCond .ne (5), 3) := by decide +kernel
theorem dL_solve_58 : decode prog_4_method_3_code 58 = .ok (.iconst 1, 1) := by decide +kernel
theorem dL_solve_59 : decode prog_4_method_3_code 59 = .ok (.ireturn, 1) := by decide +kernel
theorem dL_solve_60 : decode prog_4_method_3_code 60 = .ok (.iinc 3 (1), 3) := by decide +kernel
theorem dL_solve_63 : decode prog_4_method_3_code 63 = .ok (.goto (-34), 3) := by decide +kernel
theorem dL_solve_66 : decode prog_4_method_3_code 66 = .ok (.iconst 0, 1) := by decide +kernel
theorem dL_solve_67 : decode prog_4_method_3_code 67 = .ok (.ireturn, 1) := by decide +kernel
theorem dL_limitWire_0 : decode prog_4_method_4_code 0 = .ok (.aload_n 0, 1) := by decide +kernel
theorem dL_limitWire_1 : decode prog_4_method_4_code 1 = .ok (.iload_n 1, 1) := by decide +kernel
theorem dL_limitWire_2 : decode prog_4_method_4_code 2 = .ok (.iload_n 2, 1) := by decide +kernel
theorem dL_limitWire_3 : decode prog_4_method_4_code 3 = .ok (.iload_n 3, 1) := by decide +kernel
theorem dL_limitWire_4 : decode prog_4_method_4_code 4 = .ok (.invokevirtual 56, 3) := by decide +kernel
theorem dL_limitWire_7 : decode prog_4_method_4_code 7 = .ok (.aload_n 0, 1) := by decide +kernel
theorem dL_limitWire_8 : decode prog_4_method_4_code 8 = .ok (.iload_n 2, 1) := by decide +kernel
theorem dL_limitWire_9 : decode prog_4_method_4_code 9 = .ok (.iload_n 1, 1) := by decide +kernel
theorem dL_limitWire_10 : decode prog_4_method_4_code 10 = .ok (.bipush (20), 2) := by decide +kernel
theorem dL_limitWire_12 : decode prog_4_method_4_code 12 = .ok (.iload_n 3, 1) := by decide +kernel
theorem dL_limitWire_13 : decode prog_4_method_4_code 13 = .ok (.isub, 1) := by decide +kernel
theorem dL_limitWire_14 : decode prog_4_method_4_code 14 = .ok (.invokevirtual 56, 3) := by decide +kernel
theorem dL_limitWire_17 : decode prog_4_method_4_code 17 = .ok (.return_, 1) := by decide +kernel
theorem dL_limitPaths_0 : decode prog_4_method_5_code 0 = .ok (.iconst 1, 1) := by decide +kernel
theorem dL_limitPaths_1 : decode prog_4_method_5_code 1 = .ok (.istore 5, 2) := by decide +kernel
theorem dL_limitPaths_3 : decode prog_4_method_5_code 3 = .ok (.iload 5, 2) := by decide +kernel
theorem dL_limitPaths_5 : decode prog_4_method_5_code 5 = .ok (.iload_n 1, 1) := by decide +kernel
theorem dL_limitPaths_6 : decode prog_4_method_5_code 6 = .ok (.if_icmp .gt (41), 3) := by decide +kernel
theorem dL_limitPaths_9 : decode prog_4_method_5_code 9 = .ok (.aload_n 2, 1) := by decide +kernel
theorem dL_limitPaths_10 : decode prog_4_method_5_code 10 = .ok (.getfield 59, 3) := by decide +kernel
theorem dL_limitPaths_13 : decode prog_4_method_5_code 13 = .ok (.iload_n 3, 1) := by decide +kernel
theorem dL_limitPaths_14 : decode prog_4_method_5_code 14 = .ok (.aaload, 1) := by decide +kernel
theorem dL_limitPaths_15 : decode prog_4_method_5_code 15 = .ok (.iload 5, 2) := by decide +kernel
theorem dL_limitPaths_17 : decode prog_4_method_5_code 17 = .ok (.iaload, 1) := by decide +kernel
theorem dL_limitPaths_18 : decode prog_4_method_5_code 18 = .ok (.iload 4, 2) := by decide +kernel
theorem dL_limitPaths_20 : decode prog_4_method_5_code 20 = .ok (.if_icmp .le (21), 3) := by decide +kernel
theorem dL_limitPaths_23 : decode prog_4_method_5_code 23 = .ok (.aload_n 0, 1) := by decide +kernel
theorem dL_limitPaths_24 : decode prog_4_method_5_code 24 = .ok (.iload_n 3, 1) := by decide +kernel
theorem dL_limitPaths_25 : decode prog_4_method_5_code 25 = .ok (.iload 5, 2) := by decide +kernel
theorem dL_limitPaths_27 : decode prog_4_method_5_code 27 = .ok (.aload_n 2, 1) := by decide +kernel
theorem dL_limitPaths_28 : decode prog_4_method_5_code 28 = .ok (.getfield 64, 3) := by decide +kernel
theorem dL_limitPaths_31 : decode prog_4_method_5_code 31 = .ok (.iload_n 3, 1) := by decide +kernel
theorem dL_limitPaths_32 : decode prog_4_method_5_code 32 = .ok (.aaload, 1) := by decide +kernel
theorem dL_limitPaths_33 : decode prog_4_method_5_code 33 = .ok (.iload 5, 2) := by decide +kernel
theorem dL_limitPaths_35 : decode prog_4_method_5_code 35 = .ok (.iaload, 1) := by decide +kernel
theorem dL_limitPaths_36 : decode prog_4_method_5_code 36 = .ok (.iconst 1, 1) := by decide +kernel
theorem dL_limitPaths_37 : decode prog_4_method_5_code 37 = .ok (.isub, 1) := by decide +kernel
theorem dL_limitPaths_38 : decode prog_4_method_5_code 38 = .ok (.invokevirtual 56, 3) := by decide +kernel
theorem dL_limitPaths_41 : decode prog_4_method_5_code 41 = .ok (.iinc 5 (1), 3) := by decide +kernel
theorem dL_limitPaths_44 : decode prog_4_method_5_code 44 = .ok (.goto (-41), 3) := by decide +kernel
theorem dL_limitPaths_47 : decode prog_4_method_5_code 47 = .ok (.return_, 1) := by decide +kernel
theorem dL_limit_0 : decode prog_4_method_6_code 0 = .ok (.aload_n 0, 1) := by decide +kernel
theorem dL_limit_1 : decode prog_4_method_6_code 1 = .ok (.getfield 17, 3) := by decide +kernel
theorem dL_limit_4 : decode prog_4_method_6_code 4 = .ok (.iload_n 1, 1) := by decide +kernel
theorem dL_limit_5 : decode prog_4_method_6_code 5 = .ok (.aaload, 1) := by decide +kernel
theorem dL_limit_6 : decode prog_4_method_6_code 6 = .ok (.iload_n 2, 1) := by decide +kernel
theorem dL_limit_7 : decode prog_4_method_6_code 7 = .ok (.aload_n 0, 1) := by decide +kernel
theorem dL_limit_8 : decode prog_4_method_6_code 8 = .ok (.getfield 17, 3) := by decide +kernel
theorem dL_limit_11 : decode prog_4_method_6_code 11 = .ok (.iload_n 1, 1) := by decide +kernel
theorem dL_limit_12 : decode prog_4_method_6_code 12 = .ok (.aaload, 1) := by decide +kernel
theorem dL_limit_13 : decode prog_4_method_6_code 13 = .ok (.iload_n 2, 1) := by decide +kernel
theorem dL_limit_14 : decode prog_4_method_6_code 14 = .ok (.iaload, 1) := by decide +kernel
theorem dL_limit_15 : decode prog_4_method_6_code 15 = .ok (.iload_n 3, 1) := by decide +kernel
theorem dL_limit_16 : decode prog_4_method_6_code 16 = .ok (.invokestatic 67, 3) := by decide +kernel
theorem dL_limit_19 : decode prog_4_method_6_code 19 = .ok (.iastore, 1) := by decide +kernel
theorem dL_limit_20 : decode prog_4_method_6_code 20 = .ok (.return_, 1) := by decide +kernel
theorem dL_lowerAll_0 : decode prog_4_method_7_code 0 = .ok (.iconst 0, 1) := by decide +kernel
theorem dL_lowerAll_1 : decode prog_4_method_7_code 1 = .ok (.istore_n 2, 1) := by decide +kernel
theorem dL_lowerAll_2 : decode prog_4_method_7_code 2 = .ok (.iconst 0, 1) := by decide +kernel
theorem dL_lowerAll_3 : decode prog_4_method_7_code 3 = .ok (.istore_n 3, 1) := by decide +kernel
theorem dL_lowerAll_4 : decode prog_4_method_7_code 4 = .ok (.iload_n 3, 1) := by decide +kernel
theorem dL_lowerAll_5 : decode prog_4_method_7_code 5 = .ok (.iload_n 1, 1) := by decide +kernel
theorem dL_lowerAll_6 : decode prog_4_method_7_code 6 = .ok (.if_icmp .gt (75), 3) := by decide +kernel
theorem dL_lowerAll_9 : decode prog_4_method_7_code 9 = .ok (.iconst 0, 1) := by decide +kernel
theorem dL_lowerAll_10 : decode prog_4_method_7_code 10 = .ok (.istore 4, 2) := by decide +kernel
theorem dL_lowerAll_12 : decode prog_4_method_7_code 12 = .ok (.iload 4, 2) := by decide +kernel
theorem dL_lowerAll_14 : decode prog_4_method_7_code 14 = .ok (.iload_n 1, 1) := by decide +kernel
theorem dL_lowerAll_15 : decode prog_4_method_7_code 15 = .ok (.if_icmp .gt (60), 3) := by decide +kernel
theorem dL_lowerAll_18 : decode prog_4_method_7_code 18 = .ok (.aload_n 0, 1) := by decide +kernel
theorem dL_lowerAll_19 : decode prog_4_method_7_code 19 = .ok (.getfield 9, 3) := by decide +kernel
theorem dL_lowerAll_22 : decode prog_4_method_7_code 22 = .ok (.iload_n 3, 1) := by decide +kernel
theorem dL_lowerAll_23 : decode prog_4_method_7_code 23 = .ok (.iaload, 1) := by decide +kernel
theorem dL_lowerAll_24 : decode prog_4_method_7_code 24 = .ok (.aload_n 0, 1) := by decide +kernel
theorem dL_lowerAll_25 : decode prog_4_method_7_code 25 = .ok (.getfield 9, 3) := by decide +kernel
theorem dL_lowerAll_28 : decode prog_4_method_7_code 28 = .ok (.iload 4, 2) := by decide +kernel
theorem dL_lowerAll_30 : decode prog_4_method_7_code 30 = .ok (.iaload, 1) := by decide +kernel
theorem dL_lowerAll_31 : decode prog_4_method_7_code 31 = .ok (.aload_n 0, 1) := by decide +kernel
theorem dL_lowerAll_32 : decode prog_4_method_7_code 32 = .ok (.getfield 17, 3) := by decide +kernel
theorem dL_lowerAll_35 : decode prog_4_method_7_code 35 = .ok (.iload_n 3, 1) := by decide +kernel
theorem dL_lowerAll_36 : decode prog_4_method_7_code 36 = .ok (.aaload, 1) := by decide +kernel
theorem dL_lowerAll_37 : decode prog_4_method_7_code 37 = .ok (.iload 4, 2) := by decide +kernel
theorem dL_lowerAll_39 : decode prog_4_method_7_code 39 = .ok (.iaload, 1) := by decide +kernel
theorem dL_lowerAll_40 : decode prog_4_method_7_code 40 = .ok (.iadd, 1) := by decide +kernel
theorem dL_lowerAll_41 : decode prog_4_method_7_code 41 = .ok (.if_icmp .le (28), 3) := by decide +kernel
theorem dL_lowerAll_44 : decode prog_4_method_7_code 44 = .ok (.aload_n 0, 1) := by decide +kernel
theorem dL_lowerAll_45 : decode prog_4_method_7_code 45 = .ok (.getfield 9, 3) := by decide +kernel
theorem dL_lowerAll_48 : decode prog_4_method_7_code 48 = .ok (.iload_n 3, 1) := by decide +kernel
theorem dL_lowerAll_49 : decode prog_4_method_7_code 49 = .ok (.aload_n 0, 1) := by decide +kernel
theorem dL_lowerAll_50 : decode prog_4_method_7_code 50 = .ok (.getfield 9, 3) := by decide +kernel
theorem dL_lowerAll_53 : decode prog_4_method_7_code 53 = .ok (.iload 4, 2) := by decide +kernel
theorem dL_lowerAll_55 : decode prog_4_method_7_code 55 = .ok (.iaload, 1) := by decide +kernel
theorem dL_lowerAll_56 : decode prog_4_method_7_code 56 = .ok (.aload_n 0, 1) := by decide +kernel
theorem dL_lowerAll_57 : decode prog_4_method_7_code 57 = .ok (.getfield 17, 3) := by decide +kernel
theorem dL_lowerAll_60 : decode prog_4_method_7_code 60 = .ok (.iload_n 3, 1) := by decide +kernel
theorem dL_lowerAll_61 : decode prog_4_method_7_code 61 = .ok (.aaload, 1) := by decide +kernel
theorem dL_lowerAll_62 : decode prog_4_method_7_code 62 = .ok (.iload 4, 2) := by decide +kernel
theorem dL_lowerAll_64 : decode prog_4_method_7_code 64 = .ok (.iaload, 1) := by decide +kernel
theorem dL_lowerAll_65 : decode prog_4_method_7_code 65 = .ok (.iadd, 1) := by decide +kernel
theorem dL_lowerAll_66 : decode prog_4_method_7_code 66 = .ok (.iastore, 1) := by decide +kernel
theorem dL_lowerAll_67 : decode prog_4_method_7_code 67 = .ok (.iconst 1, 1) := by decide +kernel
theorem dL_lowerAll_68 : decode prog_4_method_7_code 68 = .ok (.istore_n 2, 1) := by decide +kernel
theorem dL_lowerAll_69 : decode prog_4_method_7_code 69 = .ok (.iinc 4 (1), 3) := by decide +kernel
theorem dL_lowerAll_72 : decode prog_4_method_7_code 72 = .ok (.goto (-60), 3) := by decide +kernel
theorem dL_lowerAll_75 : decode prog_4_method_7_code 75 = .ok (.iinc 3 (1), 3) := by decide +kernel
theorem dL_lowerAll_78 : decode prog_4_method_7_code 78 = .ok (.goto (-74), 3) := by decide +kernel
theorem dL_lowerAll_81 : decode prog_4_method_7_code 81 = .ok (.iload_n 2, 1) := by decide +kernel
theorem dL_lowerAll_82 : decode prog_4_method_7_code 82 = .ok (.ireturn, 1) := by decide +kernel
theorem dL_areAllowed_0 : decode prog_4_method_8_code 0 = .ok (.iconst 1, 1) := by decide +kernel
theorem dL_areAllowed_1 : decode prog_4_method_8_code 1 = .ok (.istore_n 2, 1) := by decide +kernel
theorem dL_areAllowed_2 : decode prog_4_method_8_code 2 = .ok (.iload_n 2, 1) := by decide +kernel
theorem dL_areAllowed_3 : decode prog_4_method_8_code 3 = .ok (.iload_n 1, 1) := by decide +kernel
theorem dL_areAllowed_4 : decode prog_4_method_8_code 4 = .ok (.if_icmp .gt (22), 3) := by decide +kernel
theorem dL_areAllowed_7 : decode prog_4_method_8_code 7 = .ok (.aload_n 0, 1) := by decide +kernel
theorem dL_areAllowed_8 : decode prog_4_method_8_code 8 = .ok (.getfield 9, 3) := by decide +kernel
theorem dL_areAllowed_11 : decode prog_4_method_8_code 11 = .ok (.iload_n 2, 1) := by decide +kernel
theorem dL_areAllowed_12 : decode prog_4_method_8_code 12 = .ok (.iaload, 1) := by decide +kernel
theorem dL_areAllowed_13 : decode prog_4_method_8_code 13 = .ok (.bipush (-6), 2) := by decide +kernel
theorem dL_areAllowed_15 : decode prog_4_method_8_code 15 = .ok (.if_icmp .ge (5), 3) := by decide +kernel
theorem dL_areAllowed_18 : decode prog_4_method_8_code 18 = .ok (.iconst 0, 1) := by decide +kernel
theorem dL_areAllowed_19 : decode prog_4_method_8_code 19 = .ok (.ireturn, 1) := by decide +kernel
theorem dL_areAllowed_20 : decode prog_4_method_8_code 20 = .ok (.iinc 2 (1), 3) := by decide +kernel
theorem dL_areAllowed_23 : decode prog_4_method_8_code 23 = .ok (.goto (-21), 3) := by decide +kernel
theorem dL_areAllowed_26 : decode prog_4_method_8_code 26 = .ok (.aload_n 0, 1) := by decide +kernel
theorem dL_areAllowed_27 : decode prog_4_method_8_code 27 = .ok (.getfield 9, 3) := by decide +kernel
theorem dL_areAllowed_30 : decode prog_4_method_8_code 30 = .ok (.iconst 0, 1) := by decide +kernel
theorem dL_areAllowed_31 : decode prog_4_method_8_code 31 = .ok (.iaload, 1) := by decide +kernel
theorem dL_areAllowed_32 : decode prog_4_method_8_code 32 = .ok (.ifCond .ne (7), 3) := by decide +kernel
theorem dL_areAllowed_35 : decode prog_4_method_8_code 35 = .ok (.iconst 1, 1) := by decide +kernel
theorem dL_areAllowed_36 : decode prog_4_method_8_code 36 = .ok (.goto (4), 3) := by decide +kernel
theorem dL_areAllowed_39 : decode prog_4_method_8_code 39 = .ok (.iconst 0, 1) := by decide +kernel
theorem dL_areAllowed_40 : decode prog_4_method_8_code 40 = .ok (.ireturn, 1) := by decide +kernel
theorem dG_made_0 : decode prog_5_method_2_code 0 = .ok (.iload_n 0, 1) := by decide +kernel
theorem dG_made_1 : decode prog_5_method_2_code 1 = .ok (.tableswitch (52) 0 3 #[31, 33, 38, 45], 31) := by decide +kernel
theorem dG_made_32 : decode prog_5_method_2_code 32 = .ok (.iload_n 1, 1) := by decide +kernel
theorem dG_made_33 : decode prog_5_method_2_code 33 = .ok (.ireturn, 1) := by decide +kernel
theorem dG_made_34 : decode prog_5_method_2_code 34 = .ok (.iload_n 1, 1) := by decide +kernel
theorem dG_made_35 : decode prog_5_method_2_code 35 = .ok (.invokestatic 9, 3) := by decide +kernel
theorem dG_made_38 : decode prog_5_method_2_code 38 = .ok (.ireturn, 1) := by decide +kernel
theorem dG_made_39 : decode prog_5_method_2_code 39 = .ok (.iconst 0, 1) := by decide +kernel
theorem dG_made_40 : decode prog_5_method_2_code 40 = .ok (.iload_n 1, 1) := by decide +kernel
theorem dG_made_41 : decode prog_5_method_2_code 41 = .ok (.iload_n 2, 1) := by decide +kernel
theorem dG_made_42 : decode prog_5_method_2_code 42 = .ok (.invokestatic 15, 3) := by decide +kernel
theorem dG_made_45 : decode prog_5_method_2_code 45 = .ok (.ireturn, 1) := by decide +kernel
theorem dG_made_46 : decode prog_5_method_2_code 46 = .ok (.iconst 1, 1) := by decide +kernel
theorem dG_made_47 : decode prog_5_method_2_code 47 = .ok (.iload_n 1, 1) := by decide +kernel
theorem dG_made_48 : decode prog_5_method_2_code 48 = .ok (.iload_n 2, 1) := by decide +kernel
theorem dG_made_49 : decode prog_5_method_2_code 49 = .ok (.invokestatic 15, 3) := by decide +kernel
theorem dG_made_52 : decode prog_5_method_2_code 52 = .ok (.ireturn, 1) := by decide +kernel
theorem dG_made_53 : decode prog_5_method_2_code 53 = .ok (.iload_n 1, 1) := by decide +kernel
theorem dG_made_54 : decode prog_5_method_2_code 54 = .ok (.iconst 2, 1) := by decide +kernel
theorem dG_made_55 : decode prog_5_method_2_code 55 = .ok (.if_icmp .eq (8), 3) := by decide +kernel
theorem dG_made_58 : decode prog_5_method_2_code 58 = .ok (.iload_n 2, 1) := by decide +kernel
theorem dG_made_59 : decode prog_5_method_2_code 59 = .ok (.iconst 2, 1) := by decide +kernel
theorem dG_made_60 : decode prog_5_method_2_code 60 = .ok (.if_icmp .ne (7), 3) := by decide +kernel
theorem dG_made_63 : decode prog_5_method_2_code 63 = .ok (.iconst 2, 1) := by decide +kernel
theorem dG_made_64 : decode prog_5_method_2_code 64 = .ok (.goto (6), 3) := by decide +kernel
theorem dG_made_67 : decode prog_5_method_2_code 67 = .ok (.iload_n 1, 1) := by decide +kernel
theorem dG_made_68 : decode prog_5_method_2_code 68 = .ok (.iload_n 2, 1) := by decide +kernel
theorem dG_made_69 : decode prog_5_method_2_code 69 = .ok (.ixor, 1) := by decide +kernel
theorem dG_made_70 : decode prog_5_method_2_code 70 = .ok (.ireturn, 1) := by decide +kernel
theorem dG_needed_0 : decode prog_5_method_3_code 0 = .ok (.iload_n 2, 1) := by decide +kernel
theorem dG_needed_1 : decode prog_5_method_3_code 1 = .ok (.iconst 2, 1) := by decide +kernel
theorem dG_needed_2 : decode prog_5_method_3_code 2 = .ok (.if_icmp .ne (5), 3) := by decide +kernel
theorem dG_needed_5 : decode prog_5_method_3_code 5 = .ok (.iconst 2, 1) := by decide +kernel
theorem dG_needed_6 : decode prog_5_method_3_code 6 = .ok (.ireturn, 1) := by decide +kernel
theorem dG_needed_7 : decode prog_5_method_3_code 7 = .ok (.iload_n 0, 1) := by decide +kernel
theorem dG_needed_8 : decode prog_5_method_3_code 8 = .ok (.tableswitch (70) 0 3 #[32, 34, 39, 54], 32) := by decide +kernel
theorem dG_needed_40 : decode prog_5_method_3_code 40 = .ok (.iload_n 2, 1) := by decide +kernel
theorem dG_needed_41 : decode prog_5_method_3_code 41 = .ok (.ireturn, 1) := by decide +kernel
theorem dG_needed_42 : decode prog_5_method_3_code 42 = .ok (.iload_n 2, 1) := by decide +kernel
theorem dG_needed_43 : decode prog_5_method_3_code 43 = .ok (.invokestatic 9, 3) := by decide +kernel
theorem dG_needed_46 : decode prog_5_method_3_code 46 = .ok (.ireturn, 1) := by decide +kernel
theorem dG_needed_47 : decode prog_5_method_3_code 47 = .ok (.iload_n 2, 1) := by decide +kernel
theorem dG_needed_48 : decode prog_5_method_3_code 48 = .ok (.ifCond .ne (12), 3) := by decide +kernel
theorem dG_needed_51 : decode prog_5_method_3_code 51 = .ok (.iload_n 1, 1) := by decide +kernel
theorem dG_needed_52 : decode prog_5_method_3_code 52 = .ok (.iconst 1, 1) := by decide +kernel
theorem dG_needed_53 : decode prog_5_method_3_code 53 = .ok (.if_icmp .ne (7), 3) := by decide +kernel
theorem dG_needed_56 : decode prog_5_method_3_code 56 = .ok (.iconst 2, 1) := by decide +kernel
theorem dG_needed_57 : decode prog_5_method_3_code 57 = .ok (.goto (4), 3) := by decide +kernel
theorem dG_needed_60 : decode prog_5_method_3_code 60 = .ok (.iload_n 2, 1) := by decide +kernel
theorem dG_needed_61 : decode prog_5_method_3_code 61 = .ok (.ireturn, 1) := by decide +kernel
theorem dG_needed_62 : decode prog_5_method_3_code 62 = .ok (.iload_n 2, 1) := by decide +kernel
theorem dG_needed_63 : decode prog_5_method_3_code 63 = .ok (.iconst 1, 1) := by decide +kernel
theorem dG_needed_64 : decode prog_5_method_3_code 64 = .ok (.if_icmp .ne (12), 3) := by decide +kernel
theorem dG_needed_67 : decode prog_5_method_3_code 67 = .ok (.iload_n 1, 1) := by decide +kernel
theorem dG_needed_68 : decode prog_5_method_3_code 68 = .ok (.iconst 1, 1) := by decide +kernel
theorem dG_needed_69 : decode prog_5_method_3_code 69 = .ok (.if_icmp .ne (7), 3) := by decide +kernel
theorem dG_needed_72 : decode prog_5_method_3_code 72 = .ok (.iconst 2, 1) := by decide +kernel
theorem dG_needed_73 : decode prog_5_method_3_code 73 = .ok (.goto (4), 3) := by decide +kernel
theorem dG_needed_76 : decode prog_5_method_3_code 76 = .ok (.iload_n 2, 1) := by decide +kernel
theorem dG_needed_77 : decode prog_5_method_3_code 77 = .ok (.ireturn, 1) := by decide +kernel
theorem dG_needed_78 : decode prog_5_method_3_code 78 = .ok (.iload_n 1, 1) := by decide +kernel
theorem dG_needed_79 : decode prog_5_method_3_code 79 = .ok (.ifCond .ne (7), 3) := by decide +kernel
theorem dG_needed_82 : decode prog_5_method_3_code 82 = .ok (.iload_n 2, 1) := by decide +kernel
theorem dG_needed_83 : decode prog_5_method_3_code 83 = .ok (.goto (4), 3) := by decide +kernel
theorem dG_needed_86 : decode prog_5_method_3_code 86 = .ok (.iconst 0, 1) := by decide +kernel
theorem dG_needed_87 : decode prog_5_method_3_code 87 = .ok (.ireturn, 1) := by decide +kernel
theorem dG_opposite_0 : decode prog_5_method_4_code 0 = .ok (.iload_n 0, 1) := by decide +kernel
theorem dG_opposite_1 : decode prog_5_method_4_code 1 = .ok (.iconst 2, 1) := by decide +kernel
theorem dG_opposite_2 : decode prog_5_method_4_code 2 = .ok (.if_icmp .ne (7), 3) := by decide +kernel
theorem dG_opposite_5 : decode prog_5_method_4_code 5 = .ok (.iconst 2, 1) := by decide +kernel
theorem dG_opposite_6 : decode prog_5_method_4_code 6 = .ok (.goto (6), 3) := by decide +kernel
theorem dG_opposite_9 : decode prog_5_method_4_code 9 = .ok (.iconst 1, 1) := by decide +kernel
theorem dG_opposite_10 : decode prog_5_method_4_code 10 = .ok (.iload_n 0, 1) := by decide +kernel
theorem dG_opposite_11 : decode prog_5_method_4_code 11 = .ok (.isub, 1) := by decide +kernel
theorem dG_opposite_12 : decode prog_5_method_4_code 12 = .ok (.ireturn, 1) := by decide +kernel
theorem dG_ruled_0 : decode prog_5_method_5_code 0 = .ok (.iload_n 1, 1) := by decide +kernel
theorem dG_ruled_1 : decode prog_5_method_5_code 1 = .ok (.iload_n 0, 1) := by decide +kernel
theorem dG_ruled_2 : decode prog_5_method_5_code 2 = .ok (.if_icmp .eq (8), 3) := by decide +kernel
theorem dG_ruled_5 : decode prog_5_method_5_code 5 = .ok (.iload_n 2, 1) := by decide +kernel
theorem dG_ruled_6 : decode prog_5_method_5_code 6 = .ok (.iload_n 0, 1) := by decide +kernel
theorem dG_ruled_7 : decode prog_5_method_5_code 7 = .ok (.if_icmp .ne (5), 3) := by decide +kernel
theorem dG_ruled_10 : decode prog_5_method_5_code 10 = .ok (.iload_n 0, 1) := by decide +kernel
theorem dG_ruled_11 : decode prog_5_method_5_code 11 = .ok (.ireturn, 1) := by decide +kernel
theorem dG_ruled_12 : decode prog_5_method_5_code 12 = .ok (.iload_n 1, 1) := by decide +kernel
theorem dG_ruled_13 : decode prog_5_method_5_code 13 = .ok (.iconst 2, 1) := by decide +kernel
theorem dG_ruled_14 : decode prog_5_method_5_code 14 = .ok (.if_icmp .eq (8), 3) := by decide +kernel
theorem dG_ruled_17 : decode prog_5_method_5_code 17 = .ok (.iload_n 2, 1) := by decide +kernel
theorem dG_ruled_18 : decode prog_5_method_5_code 18 = .ok (.iconst 2, 1) := by decide +kernel
theorem dG_ruled_19 : decode prog_5_method_5_code 19 = .ok (.if_icmp .ne (7), 3) := by decide +kernel
theorem dG_ruled_22 : decode prog_5_method_5_code 22 = .ok (.iconst 2, 1) := by decide +kernel
theorem dG_ruled_23 : decode prog_5_method_5_code 23 = .ok (.goto (6), 3) := by decide +kernel
theorem dG_ruled_26 : decode prog_5_method_5_code 26 = .ok (.iconst 1, 1) := by decide +kernel
theorem dG_ruled_27 : decode prog_5_method_5_code 27 = .ok (.iload_n 0, 1) := by decide +kernel
theorem dG_ruled_28 : decode prog_5_method_5_code 28 = .ok (.isub, 1) := by decide +kernel
theorem dG_ruled_29 : decode prog_5_method_5_code 29 = .ok (.ireturn, 1) := by decide +kernel
theorem dV_follow_0 : decode prog_6_method_2_code 0 = .ok (.aload_n 3, 1) := by decide +kernel
theorem dV_follow_1 : decode prog_6_method_2_code 1 = .ok (.iconst 0, 1) := by decide +kernel
theorem dV_follow_2 : decode prog_6_method_2_code 2 = .ok (.aload_n 0, 1) := by decide +kernel
theorem dV_follow_3 : decode prog_6_method_2_code 3 = .ok (.getfield 9, 3) := by decide +kernel
theorem dV_follow_6 : decode prog_6_method_2_code 6 = .ok (.iconst 0, 1) := by decide +kernel
theorem dV_follow_7 : decode prog_6_method_2_code 7 = .ok (.aload_n 1, 1) := by decide +kernel
theorem dV_follow_8 : decode prog_6_method_2_code 8 = .ok (.getfield 15, 3) := by decide +kernel
theorem dV_follow_11 : decode prog_6_method_2_code 11 = .ok (.iconst 1, 1) := by decide +kernel
theorem dV_follow_12 : decode prog_6_method_2_code 12 = .ok (.iadd, 1) := by decide +kernel
theorem dV_follow_13 : decode prog_6_method_2_code 13 = .ok (.invokestatic 21, 3) := by decide +kernel
theorem dV_follow_16 : decode prog_6_method_2_code 16 = .ok (.iconst 0, 1) := by decide +kernel
theorem dV_follow_17 : decode prog_6_method_2_code 17 = .ok (.istore 4, 2) := by decide +kernel
theorem dV_follow_19 : decode prog_6_method_2_code 19 = .ok (.iload 4, 2) := by decide +kernel
theorem dV_follow_21 : decode prog_6_method_2_code 21 = .ok (.bipush (72), 2) := by decide +kernel
theorem dV_follow_23 : decode prog_6_method_2_code 23 = .ok (.if_icmp .gt (33), 3) := by decide +kernel
theorem dV_follow_26 : decode prog_6_method_2_code 26 = .ok (.aload_n 0, 1) := by decide +kernel
theorem dV_follow_27 : decode prog_6_method_2_code 27 = .ok (.aload_n 1, 1) := by decide +kernel
theorem dV_follow_28 : decode prog_6_method_2_code 28 = .ok (.getfield 15, 3) := by decide +kernel
theorem dV_follow_31 : decode prog_6_method_2_code 31 = .ok (.invokevirtual 27, 3) := by decide +kernel
theorem dV_follow_34 : decode prog_6_method_2_code 34 = .ok (.ifCond .eq (5), 3) := by decide +kernel
theorem dV_follow_37 : decode prog_6_method_2_code 37 = .ok (.iconst 1, 1) := by decide +kernel
theorem dV_follow_38 : decode prog_6_method_2_code 38 = .ok (.ireturn, 1) := by decide +kernel
theorem dV_follow_39 : decode prog_6_method_2_code 39 = .ok (.aload_n 0, 1) := by decide +kernel
theorem dV_follow_40 : decode prog_6_method_2_code 40 = .ok (.aload_n 1, 1) := by decide +kernel
theorem dV_follow_41 : decode prog_6_method_2_code 41 = .ok (.aload_n 2, 1) := by decide +kernel
theorem dV_follow_42 : decode prog_6_method_2_code 42 = .ok (.invokevirtual 31, 3) := by decide +kernel
theorem dV_follow_45 : decode prog_6_method_2_code 45 = .ok (.ifCond .ne (5), 3) := by decide +kernel
theorem dV_follow_48 : decode prog_6_method_2_code 48 = .ok (.iconst 0, 1) := by decide +kernel
theorem dV_follow_49 : decode prog_6_method_2_code 49 = .ok (.ireturn, 1) := by decide +kernel
theorem dV_follow_50 : decode prog_6_method_2_code 50 = .ok (.iinc 4 (1), 3) := by decide +kernel
theorem dV_follow_53 : decode prog_6_method_2_code 53 = .ok (.goto (-34), 3) := by decide +kernel
theorem dV_follow_56 : decode prog_6_method_2_code 56 = .ok (.iconst 0, 1) := by decide +kernel
theorem dV_follow_57 : decode prog_6_method_2_code 57 = .ok (.ireturn, 1) := by decide +kernel
theorem dV_isDone_0 : decode prog_6_method_3_code 0 = .ok (.iconst 1, 1) := by decide +kernel
theorem dV_isDone_1 : decode prog_6_method_3_code 1 = .ok (.istore_n 2, 1) := by decide +kernel
theorem dV_isDone_2 : decode prog_6_method_3_code 2 = .ok (.iload_n 2, 1) := by decide +kernel
theorem dV_isDone_3 : decode prog_6_method_3_code 3 = .ok (.iload_n 1, 1) := by decide +kernel
theorem dV_isDone_4 : decode prog_6_method_3_code 4 = .ok (.if_icmp .gt (20), 3) := by decide +kernel
theorem dV_isDone_7 : decode prog_6_method_3_code 7 = .ok (.aload_n 0, 1) := by decide +kernel
theorem dV_isDone_8 : decode prog_6_method_3_code 8 = .ok (.getfield 9, 3) := by decide +kernel
theorem dV_isDone_11 : decode prog_6_method_3_code 11 = .ok (.iload_n 2, 1) := by decide +kernel
theorem dV_isDone_12 : decode prog_6_method_3_code 12 = .ok (.iaload, 1) := by decide +kernel
theorem dV_isDone_13 : decode prog_6_method_3_code 13 = .ok (.ifCond .eq (5), 3) := by decide +kernel
theorem dV_isDone_16 : decode prog_6_method_3_code 16 = .ok (.iconst 0, 1) := by decide +kernel
theorem dV_isDone_17 : decode prog_6_method_3_code 17 = .ok (.ireturn, 1) := by decide +kernel
theorem dV_isDone_18 : decode prog_6_method_3_code 18 = .ok (.iinc 2 (1), 3) := by decide +kernel
theorem dV_isDone_21 : decode prog_6_method_3_code 21 = .ok (.goto (-19), 3) := by decide +kernel
theorem dV_isDone_24 : decode prog_6_method_3_code 24 = .ok (.iconst 1, 1) := by decide +kernel
theorem dV_isDone_25 : decode prog_6_method_3_code 25 = .ok (.ireturn, 1) := by decide +kernel
theorem dV_moveEach_0 : decode prog_6_method_4_code 0 = .ok (.iconst 1, 1) := by decide +kernel
theorem dV_moveEach_1 : decode prog_6_method_4_code 1 = .ok (.istore_n 3, 1) := by decide +kernel
theorem dV_moveEach_2 : decode prog_6_method_4_code 2 = .ok (.iload_n 3, 1) := by decide +kernel
theorem dV_moveEach_3 : decode prog_6_method_4_code 3 = .ok (.aload_n 1, 1) := by decide +kernel
theorem dV_moveEach_4 : decode prog_6_method_4_code 4 = .ok (.getfield 15, 3) := by decide +kernel
theorem dV_moveEach_7 : decode prog_6_method_4_code 7 = .ok (.if_icmp .gt (89), 3) := by decide +kernel
theorem dV_moveEach_10 : decode prog_6_method_4_code 10 = .ok (.aload_n 0, 1) := by decide +kernel
theorem dV_moveEach_11 : decode prog_6_method_4_code 11 = .ok (.getfield 9, 3) := by decide +kernel
theorem dV_moveEach_14 : decode prog_6_method_4_code 14 = .ok (.iload_n 3, 1) := by decide +kernel
theorem dV_moveEach_15 : decode prog_6_method_4_code 15 = .ok (.iaload, 1) := by decide +kernel
theorem dV_moveEach_16 : decode prog_6_method_4_code 16 = .ok (.ifCond .ge (33), 3) := by decide +kernel
theorem dV_moveEach_19 : decode prog_6_method_4_code 19 = .ok (.aload_n 0, 1) := by decide +kernel
theorem dV_moveEach_20 : decode prog_6_method_4_code 20 = .ok (.aload_n 1, 1) := by decide +kernel
theorem dV_moveEach_21 : decode prog_6_method_4_code 21 = .ok (.aload_n 2, 1) := by decide +kernel
theorem dV_moveEach_22 : decode prog_6_method_4_code 22 = .ok (.iload_n 3, 1) := by decide +kernel
theorem dV_moveEach_23 : decode prog_6_method_4_code 23 = .ok (.invokevirtual 35, 3) := by decide +kernel
theorem dV_moveEach_26 : decode prog_6_method_4_code 26 = .ok (.ifCond .eq (23), 3) := by decide +kernel
theorem dV_moveEach_29 : decode prog_6_method_4_code 29 = .ok (.aload_n 0, 1) := by decide +kernel
theorem dV_moveEach_30 : decode prog_6_method_4_code 30 = .ok (.getfield 9, 3) := by decide +kernel
theorem dV_moveEach_33 : decode prog_6_method_4_code 33 = .ok (.iload_n 3, 1) := by decide +kernel
theorem dV_moveEach_34 : decode prog_6_method_4_code 34 = .ok (.dup2, 1) := by decide +kernel
theorem dV_moveEach_35 : decode prog_6_method_4_code 35 = .ok (.iaload, 1) := by decide +kernel
theorem dV_moveEach_36 : decode prog_6_method_4_code 36 = .ok (.iconst 1, 1) := by decide +kernel
theorem dV_moveEach_37 : decode prog_6_method_4_code 37 = .ok (.iadd, 1) := by decide +kernel
theorem dV_moveEach_38 : decode prog_6_method_4_code 38 = .ok (.iastore, 1) := by decide +kernel
theorem dV_moveEach_39 : decode prog_6_method_4_code 39 = .ok (.aload_n 0, 1) := by decide +kernel
theorem dV_moveEach_40 : decode prog_6_method_4_code 40 = .ok (.aload_n 1, 1) := by decide +kernel
theorem dV_moveEach_41 : decode prog_6_method_4_code 41 = .ok (.aload_n 2, 1) := by decide +kernel
theorem dV_moveEach_42 : decode prog_6_method_4_code 42 = .ok (.iload_n 3, 1) := by decide +kernel
theorem dV_moveEach_43 : decode prog_6_method_4_code 43 = .ok (.invokevirtual 39, 3) := by decide +kernel
theorem dV_moveEach_46 : decode prog_6_method_4_code 46 = .ok (.goto (44), 3) := by decide +kernel
theorem dV_moveEach_49 : decode prog_6_method_4_code 49 = .ok (.aload_n 0, 1) := by decide +kernel
theorem dV_moveEach_50 : decode prog_6_method_4_code 50 = .ok (.getfield 9, 3) := by decide +kernel
theorem dV_moveEach_53 : decode prog_6_method_4_code 53 = .ok (.iload_n 3, 1) := by decide +kernel
theorem dV_moveEach_54 : decode prog_6_method_4_code 54 = .ok (.iaload, 1) := by decide +kernel
theorem dV_moveEach_55 : decode prog_6_method_4_code 55 = .ok (.ifCond .le (35), 3) := by decide +kernel
theorem dV_moveEach_58 : decode prog_6_method_4_code 58 = .ok (.aload_n 0, 1) := by decide +kernel
theorem dV_moveEach_59 : decode prog_6_method_4_code 59 = .ok (.aload_n 1, 1) := by decide +kernel
theorem dV_moveEach_60 : decode prog_6_method_4_code 60 = .ok (.aload_n 2, 1) := by decide +kernel
theorem dV_moveEach_61 : decode prog_6_method_4_code 61 = .ok (.iload_n 3, 1) := by decide +kernel
theorem dV_moveEach_62 : decode prog_6_method_4_code 62 = .ok (.invokevirtual 43, 3) := by decide +kernel
theorem dV_moveEach_65 : decode prog_6_method_4_code 65 = .ok (.ifCond .eq (25), 3) := by decide +kernel
theorem dV_moveEach_68 : decode prog_6_method_4_code 68 = .ok (.aload_n 0, 1) := by decide +kernel
theorem dV_moveEach_69 : decode prog_6_method_4_code 69 = .ok (.getfield 9, 3) := by decide +kernel
theorem dV_moveEach_72 : decode prog_6_method_4_code 72 = .ok (.iload_n 3, 1) := by decide +kernel
theorem dV_moveEach_73 : decode prog_6_method_4_code 73 = .ok (.dup2, 1) := by decide +kernel
theorem dV_moveEach_74 : decode prog_6_method_4_code 74 = .ok (.iaload, 1) := by decide +kernel
theorem dV_moveEach_75 : decode prog_6_method_4_code 75 = .ok (.iconst 1, 1) := by decide +kernel
theorem dV_moveEach_76 : decode prog_6_method_4_code 76 = .ok (.isub, 1) := by decide +kernel
theorem dV_moveEach_77 : decode prog_6_method_4_code 77 = .ok (.iastore, 1) := by decide +kernel
theorem dV_moveEach_78 : decode prog_6_method_4_code 78 = .ok (.aload_n 0, 1) := by decide +kernel
theorem dV_moveEach_79 : decode prog_6_method_4_code 79 = .ok (.aload_n 1, 1) := by decide +kernel
theorem dV_moveEach_80 : decode prog_6_method_4_code 80 = .ok (.aload_n 2, 1) := by decide +kernel
theorem dV_moveEach_81 : decode prog_6_method_4_code 81 = .ok (.iload_n 3, 1) := by decide +kernel
theorem dV_moveEach_82 : decode prog_6_method_4_code 82 = .ok (.invokevirtual 46, 3) := by decide +kernel
theorem dV_moveEach_85 : decode prog_6_method_4_code 85 = .ok (.ifCond .ne (5), 3) := by decide +kernel
theorem dV_moveEach_88 : decode prog_6_method_4_code 88 = .ok (.iconst 0, 1) := by decide +kernel
theorem dV_moveEach_89 : decode prog_6_method_4_code 89 = .ok (.ireturn, 1) := by decide +kernel
theorem dV_moveEach_90 : decode prog_6_method_4_code 90 = .ok (.iinc 3 (1), 3) := by decide +kernel
theorem dV_moveEach_93 : decode prog_6_method_4_code 93 = .ok (.goto (-91), 3) := by decide +kernel
theorem dV_moveEach_96 : decode prog_6_method_4_code 96 = .ok (.iconst 1, 1) := by decide +kernel
theorem dV_moveEach_97 : decode prog_6_method_4_code 97 = .ok (.ireturn, 1) := by decide +kernel
theorem dV_canForward_0 : decode prog_6_method_5_code 0 = .ok (.aload_n 1, 1) := by decide +kernel
theorem dV_canForward_1 : decode prog_6_method_5_code 1 = .ok (.iload_n 3, 1) := by decide +kernel
theorem dV_canForward_2 : decode prog_6_method_5_code 2 = .ok (.invokevirtual 49, 3) := by decide +kernel
theorem dV_canForward_5 : decode prog_6_method_5_code 5 = .ok (.istore 4, 2) := by decide +kernel
theorem dV_canForward_7 : decode prog_6_method_5_code 7 = .ok (.iload 4, 2) := by decide +kernel
theorem dV_canForward_9 : decode prog_6_method_5_code 9 = .ok (.aload_n 1, 1) := by decide +kernel
theorem dV_canForward_10 : decode prog_6_method_5_code 10 = .ok (.iload_n 3, 1) := by decide +kernel
theorem dV_canForward_11 : decode prog_6_method_5_code 11 = .ok (.invokevirtual 53, 3) := by decide +kernel
theorem dV_canForward_14 : decode prog_6_method_5_code 14 = .ok (.if_icmp .ge (20), 3) := by decide +kernel
theorem dV_canForward_17 : decode prog_6_method_5_code 17 = .ok (.aload_n 2, 1) := by decide +kernel
theorem dV_canForward_18 : decode prog_6_method_5_code 18 = .ok (.iload 4, 2) := by decide +kernel
theorem dV_canForward_20 : decode prog_6_method_5_code 20 = .ok (.invokevirtual 56, 3) := by decide +kernel
theorem dV_canForward_23 : decode prog_6_method_5_code 23 = .ok (.ifCond .ne (5), 3) := by decide +kernel
theorem dV_canForward_26 : decode prog_6_method_5_code 26 = .ok (.iconst 0, 1) := by decide +kernel
theorem dV_canForward_27 : decode prog_6_method_5_code 27 = .ok (.ireturn, 1) := by decide +kernel
theorem dV_canForward_28 : decode prog_6_method_5_code 28 = .ok (.iinc 4 (1), 3) := by decide +kernel
theorem dV_canForward_31 : decode prog_6_method_5_code 31 = .ok (.goto (-24), 3) := by decide +kernel
theorem dV_canForward_34 : decode prog_6_method_5_code 34 = .ok (.iconst 1, 1) := by decide +kernel
theorem dV_canForward_35 : decode prog_6_method_5_code 35 = .ok (.ireturn, 1) := by decide +kernel
theorem dV_canBackward_0 : decode prog_6_method_6_code 0 = .ok (.iconst 0, 1) := by decide +kernel
theorem dV_canBackward_1 : decode prog_6_method_6_code 1 = .ok (.istore 4, 2) := by decide +kernel
theorem dV_canBackward_3 : decode prog_6_method_6_code 3 = .ok (.iload 4, 2) := by decide +kernel
theorem dV_canBackward_5 : decode prog_6_method_6_code 5 = .ok (.bipush (27), 2) := by decide +kernel
theorem dV_canBackward_7 : decode prog_6_method_6_code 7 = .ok (.if_icmp .ge (31), 3) := by decide +kernel
theorem dV_canBackward_10 : decode prog_6_method_6_code 10 = .ok (.aload_n 1, 1) := by decide +kernel
theorem dV_canBackward_11 : decode prog_6_method_6_code 11 = .ok (.getfield 61, 3) := by decide +kernel
theorem dV_canBackward_14 : decode prog_6_method_6_code 14 = .ok (.iload 4, 2) := by decide +kernel
theorem dV_canBackward_16 : decode prog_6_method_6_code 16 = .ok (.iaload, 1) := by decide +kernel
theorem dV_canBackward_17 : decode prog_6_method_6_code 17 = .ok (.iload_n 3, 1) := by decide +kernel
theorem dV_canBackward_18 : decode prog_6_method_6_code 18 = .ok (.if_icmp .ne (14), 3) := by decide +kernel
theorem dV_canBackward_21 : decode prog_6_method_6_code 21 = .ok (.aload_n 2, 1) := by decide +kernel
theorem dV_canBackward_22 : decode prog_6_method_6_code 22 = .ok (.iload 4, 2) := by decide +kernel
theorem dV_canBackward_24 : decode prog_6_method_6_code 24 = .ok (.invokevirtual 56, 3) := by decide +kernel
theorem dV_canBackward_27 : decode prog_6_method_6_code 27 = .ok (.ifCond .ne (5), 3) := by decide +kernel
theorem dV_canBackward_30 : decode prog_6_method_6_code 30 = .ok (.iconst 0, 1) := by decide +kernel
theorem dV_canBackward_31 : decode prog_6_method_6_code 31 = .ok (.ireturn, 1) := by decide +kernel
theorem dV_canBackward_32 : decode prog_6_method_6_code 32 = .ok (.iinc 4 (1), 3) := by decide +kernel
theorem dV_canBackward_35 : decode prog_6_method_6_code 35 = .ok (.goto (-32), 3) := by decide +kernel
theorem dV_canBackward_38 : decode prog_6_method_6_code 38 = .ok (.iconst 1, 1) := by decide +kernel
theorem dV_canBackward_39 : decode prog_6_method_6_code 39 = .ok (.ireturn, 1) := by decide +kernel
theorem dV_forward_0 : decode prog_6_method_7_code 0 = .ok (.aload_n 1, 1) := by decide +kernel
theorem dV_forward_1 : decode prog_6_method_7_code 1 = .ok (.iload_n 3, 1) := by decide +kernel
theorem dV_forward_2 : decode prog_6_method_7_code 2 = .ok (.invokevirtual 49, 3) := by decide +kernel
theorem dV_forward_5 : decode prog_6_method_7_code 5 = .ok (.istore 4, 2) := by decide +kernel
theorem dV_forward_7 : decode prog_6_method_7_code 7 = .ok (.aload_n 2, 1) := by decide +kernel
theorem dV_forward_8 : decode prog_6_method_7_code 8 = .ok (.iload 4, 2) := by decide +kernel
theorem dV_forward_10 : decode prog_6_method_7_code 10 = .ok (.invokevirtual 64, 3) := by decide +kernel
theorem dV_forward_13 : decode prog_6_method_7_code 13 = .ok (.istore 5, 2) := by decide +kernel
theorem dV_forward_15 : decode prog_6_method_7_code 15 = .ok (.aload_n 1, 1) := by decide +kernel
theorem dV_forward_16 : decode prog_6_method_7_code 16 = .ok (.iload_n 3, 1) := by decide +kernel
theorem dV_forward_17 : decode prog_6_method_7_code 17 = .ok (.invokevirtual 67, 3) := by decide +kernel
theorem dV_forward_20 : decode prog_6_method_7_code 20 = .ok (.iconst 2, 1) := by decide +kernel
theorem dV_forward_21 : decode prog_6_method_7_code 21 = .ok (.if_icmp .ne (14), 3) := by decide +kernel
theorem dV_forward_24 : decode prog_6_method_7_code 24 = .ok (.aload_n 2, 1) := by decide +kernel
theorem dV_forward_25 : decode prog_6_method_7_code 25 = .ok (.iload 4, 2) := by decide +kernel
theorem dV_forward_27 : decode prog_6_method_7_code 27 = .ok (.iconst 1, 1) := by decide +kernel
theorem dV_forward_28 : decode prog_6_method_7_code 28 = .ok (.iadd, 1) := by decide +kernel
theorem dV_forward_29 : decode prog_6_method_7_code 29 = .ok (.invokevirtual 64, 3) := by decide +kernel
theorem dV_forward_32 : decode prog_6_method_7_code 32 = .ok (.goto (4), 3) := by decide +kernel
theorem dV_forward_35 : decode prog_6_method_7_code 35 = .ok (.iconst 2, 1) := by decide +kernel
theorem dV_forward_36 : decode prog_6_method_7_code 36 = .ok (.istore 6, 2) := by decide +kernel
theorem dV_forward_38 : decode prog_6_method_7_code 38 = .ok (.aload_n 1, 1) := by decide +kernel
theorem dV_forward_39 : decode prog_6_method_7_code 39 = .ok (.getfield 70, 3) := by decide +kernel
theorem dV_forward_42 : decode prog_6_method_7_code 42 = .ok (.iload_n 3, 1) := by decide +kernel
theorem dV_forward_43 : decode prog_6_method_7_code 43 = .ok (.iaload, 1) := by decide +kernel
theorem dV_forward_44 : decode prog_6_method_7_code 44 = .ok (.iload 5, 2) := by decide +kernel
theorem dV_forward_46 : decode prog_6_method_7_code 46 = .ok (.iload 6, 2) := by decide +kernel
theorem dV_forward_48 : decode prog_6_method_7_code 48 = .ok (.invokestatic 73, 3) := by decide +kernel
theorem dV_forward_51 : decode prog_6_method_7_code 51 = .ok (.istore 7, 2) := by decide +kernel
theorem dV_forward_53 : decode prog_6_method_7_code 53 = .ok (.iconst 0, 1) := by decide +kernel
theorem dV_forward_54 : decode prog_6_method_7_code 54 = .ok (.istore 8, 2) := by decide +kernel
theorem dV_forward_56 : decode prog_6_method_7_code 56 = .ok (.iload 8, 2) := by decide +kernel
theorem dV_forward_58 : decode prog_6_method_7_code 58 = .ok (.bipush (27), 2) := by decide +kernel
theorem dV_forward_60 : decode prog_6_method_7_code 60 = .ok (.if_icmp .ge (28), 3) := by decide +kernel
theorem dV_forward_63 : decode prog_6_method_7_code 63 = .ok (.aload_n 1, 1) := by decide +kernel
theorem dV_forward_64 : decode prog_6_method_7_code 64 = .ok (.getfield 61, 3) := by decide +kernel
theorem dV_forward_67 : decode prog_6_method_7_code 67 = .ok (.iload 8, 2) := by decide +kernel
theorem dV_forward_69 : decode prog_6_method_7_code 69 = .ok (.iaload, 1) := by decide +kernel
theorem dV_forward_70 : decode prog_6_method_7_code 70 = .ok (.iload_n 3, 1) := by decide +kernel
theorem dV_forward_71 : decode prog_6_method_7_code 71 = .ok (.if_icmp .ne (11), 3) := by decide +kernel
theorem dV_forward_74 : decode prog_6_method_7_code 74 = .ok (.aload_n 2, 1) := by decide +kernel
theorem dV_forward_75 : decode prog_6_method_7_code 75 = .ok (.iload 8, 2) := by decide +kernel
theorem dV_forward_77 : decode prog_6_method_7_code 77 = .ok (.iload 7, 2) := by decide +kernel
theorem dV_forward_79 : decode prog_6_method_7_code 79 = .ok (.invokevirtual 79, 3) := by decide +kernel
theorem dV_forward_82 : decode prog_6_method_7_code 82 = .ok (.iinc 8 (1), 3) := by decide +kernel
theorem dV_forward_85 : decode prog_6_method_7_code 85 = .ok (.goto (-29), 3) := by decide +kernel
theorem dV_forward_88 : decode prog_6_method_7_code 88 = .ok (.return_, 1) := by decide +kernel
theorem dV_backward_0 : decode prog_6_method_8_code 0 = .ok (.iconst 2, 1) := by decide +kernel
theorem dV_backward_1 : decode prog_6_method_8_code 1 = .ok (.istore 4, 2) := by decide +kernel
theorem dV_backward_3 : decode prog_6_method_8_code 3 = .ok (.iconst 0, 1) := by decide +kernel
theorem dV_backward_4 : decode prog_6_method_8_code 4 = .ok (.istore 5, 2) := by decide +kernel
theorem dV_backward_6 : decode prog_6_method_8_code 6 = .ok (.iload 5, 2) := by decide +kernel
theorem dV_backward_8 : decode prog_6_method_8_code 8 = .ok (.bipush (27), 2) := by decide +kernel
theorem dV_backward_10 : decode prog_6_method_8_code 10 = .ok (.if_icmp .ge (33), 3) := by decide +kernel
theorem dV_backward_13 : decode prog_6_method_8_code 13 = .ok (.aload_n 1, 1) := by decide +kernel
theorem dV_backward_14 : decode prog_6_method_8_code 14 = .ok (.getfield 61, 3) := by decide +kernel
theorem dV_backward_17 : decode prog_6_method_8_code 17 = .ok (.iload 5, 2) := by decide +kernel
theorem dV_backward_19 : decode prog_6_method_8_code 19 = .ok (.iaload, 1) := by decide +kernel
theorem dV_backward_20 : decode prog_6_method_8_code 20 = .ok (.iload_n 3, 1) := by decide +kernel
theorem dV_backward_21 : decode prog_6_method_8_code 21 = .ok (.if_icmp .ne (16), 3) := by decide +kernel
theorem dV_backward_24 : decode prog_6_method_8_code 24 = .ok (.iload 4, 2) := by decide +kernel
theorem dV_backward_26 : decode prog_6_method_8_code 26 = .ok (.aload_n 2, 1) := by decide +kernel
theorem dV_backward_27 : decode prog_6_method_8_code 27 = .ok (.iload 5, 2) := by decide +kernel
theorem dV_backward_29 : decode prog_6_method_8_code 29 = .ok (.invokevirtual 83, 3) := by decide +kernel
theorem dV_backward_32 : decode prog_6_method_8_code 32 = .ok (.invokestatic 86, 3) := by decide +kernel
theorem dV_backward_35 : decode prog_6_method_8_code 35 = .ok (.istore 4, 2) := by decide +kernel
theorem dV_backward_37 : decode prog_6_method_8_code 37 = .ok (.iinc 5 (1), 3) := by decide +kernel
theorem dV_backward_40 : decode prog_6_method_8_code 40 = .ok (.goto (-34), 3) := by decide +kernel
theorem dV_backward_43 : decode prog_6_method_8_code 43 = .ok (.iload 4, 2) := by decide +kernel
theorem dV_backward_45 : decode prog_6_method_8_code 45 = .ok (.iconst 3, 1) := by decide +kernel
theorem dV_backward_46 : decode prog_6_method_8_code 46 = .ok (.if_icmp .ne (5), 3) := by decide +kernel
theorem dV_backward_49 : decode prog_6_method_8_code 49 = .ok (.iconst 0, 1) := by decide +kernel
theorem dV_backward_50 : decode prog_6_method_8_code 50 = .ok (.ireturn, 1) := by decide +kernel
theorem dV_backward_51 : decode prog_6_method_8_code 51 = .ok (.aload_n 1, 1) := by decide +kernel
theorem dV_backward_52 : decode prog_6_method_8_code 52 = .ok (.iload_n 3, 1) := by decide +kernel
theorem dV_backward_53 : decode prog_6_method_8_code 53 = .ok (.invokevirtual 49, 3) := by decide +kernel
theorem dV_backward_56 : decode prog_6_method_8_code 56 = .ok (.istore 5, 2) := by decide +kernel
theorem dV_backward_58 : decode prog_6_method_8_code 58 = .ok (.iload 5, 2) := by decide +kernel
theorem dV_backward_60 : decode prog_6_method_8_code 60 = .ok (.istore 6, 2) := by decide +kernel
theorem dV_backward_62 : decode prog_6_method_8_code 62 = .ok (.iload 6, 2) := by decide +kernel
theorem dV_backward_64 : decode prog_6_method_8_code 64 = .ok (.aload_n 1, 1) := by decide +kernel
theorem dV_backward_65 : decode prog_6_method_8_code 65 = .ok (.iload_n 3, 1) := by decide +kernel
theorem dV_backward_66 : decode prog_6_method_8_code 66 = .ok (.invokevirtual 53, 3) := by decide +kernel
theorem dV_backward_69 : decode prog_6_method_8_code 69 = .ok (.if_icmp .ge (31), 3) := by decide +kernel
theorem dV_backward_72 : decode prog_6_method_8_code 72 = .ok (.aload_n 2, 1) := by decide +kernel
theorem dV_backward_73 : decode prog_6_method_8_code 73 = .ok (.iload 6, 2) := by decide +kernel
theorem dV_backward_75 : decode prog_6_method_8_code 75 = .ok (.aload_n 1, 1) := by decide +kernel
theorem dV_backward_76 : decode prog_6_method_8_code 76 = .ok (.getfield 70, 3) := by decide +kernel
theorem dV_backward_79 : decode prog_6_method_8_code 79 = .ok (.iload_n 3, 1) := by decide +kernel
theorem dV_backward_80 : decode prog_6_method_8_code 80 = .ok (.iaload, 1) := by decide +kernel
theorem dV_backward_81 : decode prog_6_method_8_code 81 = .ok (.iload 6, 2) := by decide +kernel
theorem dV_backward_83 : decode prog_6_method_8_code 83 = .ok (.iload 5, 2) := by decide +kernel
theorem dV_backward_85 : decode prog_6_method_8_code 85 = .ok (.isub, 1) := by decide +kernel
theorem dV_backward_86 : decode prog_6_method_8_code 86 = .ok (.iload 4, 2) := by decide +kernel
theorem dV_backward_88 : decode prog_6_method_8_code 88 = .ok (.invokestatic 90, 3) := by decide +kernel
theorem dV_backward_91 : decode prog_6_method_8_code 91 = .ok (.invokevirtual 93, 3) := by decide +kernel
theorem dV_backward_94 : decode prog_6_method_8_code 94 = .ok (.iinc 6 (1), 3) := by decide +kernel
theorem dV_backward_97 : decode prog_6_method_8_code 97 = .ok (.goto (-35), 3) := by decide +kernel
theorem dV_backward_100 : decode prog_6_method_8_code 100 = .ok (.iconst 1, 1) := by decide +kernel
theorem dV_backward_101 : decode prog_6_method_8_code 101 = .ok (.ireturn, 1) := by decide +kernel
theorem dV_joined_0 : decode prog_6_method_9_code 0 = .ok (.iload_n 0, 1) := by decide +kernel
theorem dV_joined_1 : decode prog_6_method_9_code 1 = .ok (.iconst 2, 1) := by decide +kernel
theorem dV_joined_2 : decode prog_6_method_9_code 2 = .ok (.if_icmp .eq (8), 3) := by decide +kernel
theorem dV_joined_5 : decode prog_6_method_9_code 5 = .ok (.iload_n 0, 1) := by decide +kernel
theorem dV_joined_6 : decode prog_6_method_9_code 6 = .ok (.iload_n 1, 1) := by decide +kernel
theorem dV_joined_7 : decode prog_6_method_9_code 7 = .ok (.if_icmp .ne (5), 3) := by decide +kernel
theorem dV_joined_10 : decode prog_6_method_9_code 10 = .ok (.iload_n 1, 1) := by decide +kernel
theorem dV_joined_11 : decode prog_6_method_9_code 11 = .ok (.ireturn, 1) := by decide +kernel
theorem dV_joined_12 : decode prog_6_method_9_code 12 = .ok (.iload_n 1, 1) := by decide +kernel
theorem dV_joined_13 : decode prog_6_method_9_code 13 = .ok (.iconst 2, 1) := by decide +kernel
theorem dV_joined_14 : decode prog_6_method_9_code 14 = .ok (.if_icmp .ne (7), 3) := by decide +kernel
theorem dV_joined_17 : decode prog_6_method_9_code 17 = .ok (.iload_n 0, 1) := by decide +kernel
theorem dV_joined_18 : decode prog_6_method_9_code 18 = .ok (.goto (4), 3) := by decide +kernel
theorem dV_joined_21 : decode prog_6_method_9_code 21 = .ok (.iconst 3, 1) := by decide +kernel
theorem dV_joined_22 : decode prog_6_method_9_code 22 = .ok (.ireturn, 1) := by decide +kernel
theorem dO_arrange_0 : decode prog_7_method_2_code 0 = .ok (.aload_n 0, 1) := by decide +kernel
theorem dO_arrange_1 : decode prog_7_method_2_code 1 = .ok (.iconst 0, 1) := by decide +kernel
theorem dO_arrange_2 : decode prog_7_method_2_code 2 = .ok (.putfield 19, 3) := by decide +kernel
theorem dO_arrange_5 : decode prog_7_method_2_code 5 = .ok (.iconst 1, 1) := by decide +kernel
theorem dO_arrange_6 : decode prog_7_method_2_code 6 = .ok (.istore_n 3, 1) := by decide +kernel
theorem dO_arrange_7 : decode prog_7_method_2_code 7 = .ok (.iload_n 3, 1) := by decide +kernel
theorem dO_arrange_8 : decode prog_7_method_2_code 8 = .ok (.aload_n 1, 1) := by decide +kernel
theorem dO_arrange_9 : decode prog_7_method_2_code 9 = .ok (.getfield 23, 3) := by decide +kernel
theorem dO_arrange_12 : decode prog_7_method_2_code 12 = .ok (.if_icmp .gt (16), 3) := by decide +kernel
theorem dO_arrange_15 : decode prog_7_method_2_code 15 = .ok (.aload_n 0, 1) := by decide +kernel
theorem dO_arrange_16 : decode prog_7_method_2_code 16 = .ok (.getfield 15, 3) := by decide +kernel
theorem dO_arrange_19 : decode prog_7_method_2_code 19 = .ok (.iload_n 3, 1) := by decide +kernel
theorem dO_arrange_20 : decode prog_7_method_2_code 20 = .ok (.iconst 0, 1) := by decide +kernel
theorem dO_arrange_21 : decode prog_7_method_2_code 21 = .ok (.bastore, 1) := by decide +kernel
theorem dO_arrange_22 : decode prog_7_method_2_code 22 = .ok (.iinc 3 (1), 3) := by decide +kernel
theorem dO_arrange_25 : decode prog_7_method_2_code 25 = .ok (.goto (-18), 3) := by decide +kernel
theorem dO_arrange_28 : decode prog_7_method_2_code 28 = .ok (.iconst 0, 1) := by decide +kernel
theorem dO_arrange_29 : decode prog_7_method_2_code 29 = .ok (.istore_n 3, 1) := by decide +kernel
theorem dO_arrange_30 : decode prog_7_method_2_code 30 = .ok (.iload_n 3, 1) := by decide +kernel
theorem dO_arrange_31 : decode prog_7_method_2_code 31 = .ok (.aload_n 1, 1) := by decide +kernel
theorem dO_arrange_32 : decode prog_7_method_2_code 32 = .ok (.getfield 23, 3) := by decide +kernel
theorem dO_arrange_35 : decode prog_7_method_2_code 35 = .ok (.if_icmp .ge (26), 3) := by decide +kernel
theorem dO_arrange_38 : decode prog_7_method_2_code 38 = .ok (.aload_n 0, 1) := by decide +kernel
theorem dO_arrange_39 : decode prog_7_method_2_code 39 = .ok (.getfield 19, 3) := by decide +kernel
theorem dO_arrange_42 : decode prog_7_method_2_code 42 = .ok (.aload_n 1, 1) := by decide +kernel
theorem dO_arrange_43 : decode prog_7_method_2_code 43 = .ok (.getfield 23, 3) := by decide +kernel
theorem dO_arrange_46 : decode prog_7_method_2_code 46 = .ok (.if_icmp .ge (15), 3) := by decide +kernel
theorem dO_arrange_49 : decode prog_7_method_2_code 49 = .ok (.aload_n 0, 1) := by decide +kernel
theorem dO_arrange_50 : decode prog_7_method_2_code 50 = .ok (.aload_n 1, 1) := by decide +kernel
theorem dO_arrange_51 : decode prog_7_method_2_code 51 = .ok (.aload_n 2, 1) := by decide +kernel
theorem dO_arrange_52 : decode prog_7_method_2_code 52 = .ok (.invokevirtual 28, 3) := by decide +kernel
theorem dO_arrange_55 : decode prog_7_method_2_code 55 = .ok (.iinc 3 (1), 3) := by decide +kernel
theorem dO_arrange_58 : decode prog_7_method_2_code 58 = .ok (.goto (-28), 3) := by decide +kernel
theorem dO_arrange_61 : decode prog_7_method_2_code 61 = .ok (.aload_n 0, 1) := by decide +kernel
theorem dO_arrange_62 : decode prog_7_method_2_code 62 = .ok (.getfield 19, 3) := by decide +kernel
theorem dO_arrange_65 : decode prog_7_method_2_code 65 = .ok (.aload_n 1, 1) := by decide +kernel
theorem dO_arrange_66 : decode prog_7_method_2_code 66 = .ok (.getfield 23, 3) := by decide +kernel
theorem dO_arrange_69 : decode prog_7_method_2_code 69 = .ok (.if_icmp .ne (7), 3) := by decide +kernel
theorem dO_arrange_72 : decode prog_7_method_2_code 72 = .ok (.iconst 1, 1) := by decide +kernel
theorem dO_arrange_73 : decode prog_7_method_2_code 73 = .ok (.goto (4), 3) := by decide +kernel
theorem dO_arrange_76 : decode prog_7_method_2_code 76 = .ok (.iconst 0, 1) := by decide +kernel
theorem dO_arrange_77 : decode prog_7_method_2_code 77 = .ok (.ireturn, 1) := by decide +kernel
theorem dO_placeReady_0 : decode prog_7_method_3_code 0 = .ok (.iconst 1, 1) := by decide +kernel
theorem dO_placeReady_1 : decode prog_7_method_3_code 1 = .ok (.istore_n 3, 1) := by decide +kernel
theorem dO_placeReady_2 : decode prog_7_method_3_code 2 = .ok (.iload_n 3, 1) := by decide +kernel
theorem dO_placeReady_3 : decode prog_7_method_3_code 3 = .ok (.aload_n 1, 1) := by decide +kernel
theorem dO_placeReady_4 : decode prog_7_method_3_code 4 = .ok (.getfield 23, 3) := by decide +kernel
theorem dO_placeReady_7 : decode prog_7_method_3_code 7 = .ok (.if_icmp .gt (55), 3) := by decide +kernel
theorem dO_placeReady_10 : decode prog_7_method_3_code 10 = .ok (.aload_n 0, 1) := by decide +kernel
theorem dO_placeReady_11 : decode prog_7_method_3_code 11 = .ok (.getfield 15, 3) := by decide +kernel
theorem dO_placeReady_14 : decode prog_7_method_3_code 14 = .ok (.iload_n 3, 1) := by decide +kernel
theorem dO_placeReady_15 : decode prog_7_method_3_code 15 = .ok (.baload, 1) := by decide +kernel
theorem dO_placeReady_16 : decode prog_7_method_3_code 16 = .ok (.ifCond .ne (40), 3) := by decide +kernel
theorem dO_placeReady_19 : decode prog_7_method_3_code 19 = .ok (.aload_n 0, 1) := by decide +kernel
theorem dO_placeReady_20 : decode prog_7_method_3_code 20 = .ok (.aload_n 1, 1) := by decide +kernel
theorem dO_placeReady_21 : decode prog_7_method_3_code 21 = .ok (.aload_n 2, 1) := by decide +kernel
theorem dO_placeReady_22 : decode prog_7_method_3_code 22 = .ok (.iload_n 3, 1) := by decide +kernel
theorem dO_placeReady_23 : decode prog_7_method_3_code 23 = .ok (.invokevirtual 32, 3) := by decide +kernel
theorem dO_placeReady_26 : decode prog_7_method_3_code 26 = .ok (.ifCond .eq (30), 3) := by decide +kernel
theorem dO_placeReady_29 : decode prog_7_method_3_code 29 = .ok (.aload_n 0, 1) := by decide +kernel
theorem dO_placeReady_30 : decode prog_7_method_3_code 30 = .ok (.getfield 15, 3) := by decide +kernel
theorem dO_placeReady_33 : decode prog_7_method_3_code 33 = .ok (.iload_n 3, 1) := by decide +kernel
theorem dO_placeReady_34 : decode prog_7_method_3_code 34 = .ok (.iconst 1, 1) := by decide +kernel
theorem dO_placeReady_35 : decode prog_7_method_3_code 35 = .ok (.bastore, 1) := by decide +kernel
theorem dO_placeReady_36 : decode prog_7_method_3_code 36 = .ok (.aload_n 0, 1) := by decide +kernel
theorem dO_placeReady_37 : decode prog_7_method_3_code 37 = .ok (.getfield 9, 3) := by decide +kernel
theorem dO_placeReady_40 : decode prog_7_method_3_code 40 = .ok (.aload_n 0, 1) := by decide +kernel
theorem dO_placeReady_41 : decode prog_7_method_3_code 41 = .ok (.getfield 19, 3) := by decide +kernel
theorem dO_placeReady_44 : decode prog_7_method_3_code 44 = .ok (.iload_n 3, 1) := by decide +kernel
theorem dO_placeReady_45 : decode prog_7_method_3_code 45 = .ok (.iastore, 1) := by decide +kernel
theorem dO_placeReady_46 : decode prog_7_method_3_code 46 = .ok (.aload_n 0, 1) := by decide +kernel
theorem dO_placeReady_47 : decode prog_7_method_3_code 47 = .ok (.dup, 1) := by decide +kernel
theorem dO_placeReady_48 : decode prog_7_method_3_code 48 = .ok (.getfield 19, 3) := by decide +kernel
theorem dO_placeReady_51 : decode prog_7_method_3_code 51 = .ok (.iconst 1, 1) := by decide +kernel
theorem dO_placeReady_52 : decode prog_7_method_3_code 52 = .ok (.iadd, 1) := by decide +kernel
theorem dO_placeReady_53 : decode prog_7_method_3_code 53 = .ok (.putfield 19, 3) := by decide +kernel
theorem dO_placeReady_56 : decode prog_7_method_3_code 56 = .ok (.iinc 3 (1), 3) := by decide +kernel
theorem dO_placeReady_59 : decode prog_7_method_3_code 59 = .ok (.goto (-57), 3) := by decide +kernel
theorem dO_placeReady_62 : decode prog_7_method_3_code 62 = .ok (.return_, 1) := by decide +kernel
theorem dO_isReady_0 : decode prog_7_method_4_code 0 = .ok (.aload_n 1, 1) := by decide +kernel
theorem dO_isReady_1 : decode prog_7_method_4_code 1 = .ok (.iload_n 3, 1) := by decide +kernel
theorem dO_isReady_2 : decode prog_7_method_4_code 2 = .ok (.invokevirtual 36, 3) := by decide +kernel
theorem dO_isReady_5 : decode prog_7_method_4_code 5 = .ok (.istore 4, 2) := by decide +kernel
theorem dO_isReady_7 : decode prog_7_method_4_code 7 = .ok (.iload 4, 2) := by decide +kernel
theorem dO_isReady_9 : decode prog_7_method_4_code 9 = .ok (.aload_n 1, 1) := by decide +kernel
theorem dO_isReady_10 : decode prog_7_method_4_code 10 = .ok (.iload_n 3, 1) := by decide +kernel
theorem dO_isReady_11 : decode prog_7_method_4_code 11 = .ok (.invokevirtual 40, 3) := by decide +kernel
theorem dO_isReady_14 : decode prog_7_method_4_code 14 = .ok (.if_icmp .ge (43), 3) := by decide +kernel
theorem dO_isReady_17 : decode prog_7_method_4_code 17 = .ok (.aload_n 1, 1) := by decide +kernel
theorem dO_isReady_18 : decode prog_7_method_4_code 18 = .ok (.iload 4, 2) := by decide +kernel
theorem dO_isReady_20 : decode prog_7_method_4_code 20 = .ok (.invokevirtual 43, 3) := by decide +kernel
theorem dO_isReady_23 : decode prog_7_method_4_code 23 = .ok (.istore 5, 2) := by decide +kernel
theorem dO_isReady_25 : decode prog_7_method_4_code 25 = .ok (.aload_n 2, 1) := by decide +kernel
theorem dO_isReady_26 : decode prog_7_method_4_code 26 = .ok (.iload 4, 2) := by decide +kernel
theorem dO_isReady_28 : decode prog_7_method_4_code 28 = .ok (.invokevirtual 46, 3) := by decide +kernel
theorem dO_isReady_31 : decode prog_7_method_4_code 31 = .ok (.ifCond .ne (20), 3) := by decide +kernel
theorem dO_isReady_34 : decode prog_7_method_4_code 34 = .ok (.iload 5, 2) := by decide +kernel
theorem dO_isReady_36 : decode prog_7_method_4_code 36 = .ok (.ifCond .eq (15), 3) := by decide +kernel
theorem dO_isReady_39 : decode prog_7_method_4_code 39 = .ok (.aload_n 0, 1) := by decide +kernel
theorem dO_isReady_40 : decode prog_7_method_4_code 40 = .ok (.getfield 15, 3) := by decide +kernel
theorem dO_isReady_43 : decode prog_7_method_4_code 43 = .ok (.iload 5, 2) := by decide +kernel
theorem dO_isReady_45 : decode prog_7_method_4_code 45 = .ok (.baload, 1) := by decide +kernel
theorem dO_isReady_46 : decode prog_7_method_4_code 46 = .ok (.ifCond .ne (5), 3) := by decide +kernel
theorem dO_isReady_49 : decode prog_7_method_4_code 49 = .ok (.iconst 0, 1) := by decide +kernel
theorem dO_isReady_50 : decode prog_7_method_4_code 50 = .ok (.ireturn, 1) := by decide +kernel
theorem dO_isReady_51 : decode prog_7_method_4_code 51 = .ok (.iinc 4 (1), 3) := by decide +kernel
theorem dO_isReady_54 : decode prog_7_method_4_code 54 = .ok (.goto (-47), 3) := by decide +kernel
theorem dO_isReady_57 : decode prog_7_method_4_code 57 = .ok (.iconst 1, 1) := by decide +kernel
theorem dO_isReady_58 : decode prog_7_method_4_code 58 = .ok (.ireturn, 1) := by decide +kernel
theorem dH_measure_0 : decode prog_8_method_2_code 0 = .ok (.iconst 1, 1) := by decide +kernel
theorem dH_measure_1 : decode prog_8_method_2_code 1 = .ok (.istore_n 3, 1) := by decide +kernel
theorem dH_measure_2 : decode prog_8_method_2_code 2 = .ok (.iload_n 3, 1) := by decide +kernel
theorem dH_measure_3 : decode prog_8_method_2_code 3 = .ok (.aload_n 1, 1) := by decide +kernel
theorem dH_measure_4 : decode prog_8_method_2_code 4 = .ok (.getfield 19, 3) := by decide +kernel
theorem dH_measure_7 : decode prog_8_method_2_code 7 = .ok (.if_icmp .gt (60), 3) := by decide +kernel
theorem dH_measure_10 : decode prog_8_method_2_code 10 = .ok (.iconst 1, 1) := by decide +kernel
theorem dH_measure_11 : decode prog_8_method_2_code 11 = .ok (.istore 4, 2) := by decide +kernel
theorem dH_measure_13 : decode prog_8_method_2_code 13 = .ok (.iload 4, 2) := by decide +kernel
theorem dH_measure_15 : decode prog_8_method_2_code 15 = .ok (.aload_n 1, 1) := by decide +kernel
theorem dH_measure_16 : decode prog_8_method_2_code 16 = .ok (.getfield 19, 3) := by decide +kernel
theorem dH_measure_19 : decode prog_8_method_2_code 19 = .ok (.if_icmp .gt (29), 3) := by decide +kernel
theorem dH_measure_22 : decode prog_8_method_2_code 22 = .ok (.aload_n 0, 1) := by decide +kernel
theorem dH_measure_23 : decode prog_8_method_2_code 23 = .ok (.getfield 11, 3) := by decide +kernel
theorem dH_measure_26 : decode prog_8_method_2_code 26 = .ok (.iload_n 3, 1) := by decide +kernel
theorem dH_measure_27 : decode prog_8_method_2_code 27 = .ok (.aaload, 1) := by decide +kernel
theorem dH_measure_28 : decode prog_8_method_2_code 28 = .ok (.iload 4, 2) := by decide +kernel
theorem dH_measure_30 : decode prog_8_method_2_code 30 = .ok (.iconst (-1), 1) := by decide +kernel
theorem dH_measure_31 : decode prog_8_method_2_code 31 = .ok (.iastore, 1) := by decide +kernel
theorem dH_measure_32 : decode prog_8_method_2_code 32 = .ok (.aload_n 0, 1) := by decide +kernel
theorem dH_measure_33 : decode prog_8_method_2_code 33 = .ok (.getfield 16, 3) := by decide +kernel
theorem dH_measure_36 : decode prog_8_method_2_code 36 = .ok (.iload_n 3, 1) := by decide +kernel
theorem dH_measure_37 : decode prog_8_method_2_code 37 = .ok (.aaload, 1) := by decide +kernel
theorem dH_measure_38 : decode prog_8_method_2_code 38 = .ok (.iload 4, 2) := by decide +kernel
theorem dH_measure_40 : decode prog_8_method_2_code 40 = .ok (.iconst (-1), 1) := by decide +kernel
theorem dH_measure_41 : decode prog_8_method_2_code 41 = .ok (.iastore, 1) := by decide +kernel
theorem dH_measure_42 : decode prog_8_method_2_code 42 = .ok (.iinc 4 (1), 3) := by decide +kernel
theorem dH_measure_45 : decode prog_8_method_2_code 45 = .ok (.goto (-32), 3) := by decide +kernel
theorem dH_measure_48 : decode prog_8_method_2_code 48 = .ok (.aload_n 0, 1) := by decide +kernel
theorem dH_measure_49 : decode prog_8_method_2_code 49 = .ok (.iload_n 3, 1) := by decide +kernel
theorem dH_measure_50 : decode prog_8_method_2_code 50 = .ok (.iload_n 3, 1) := by decide +kernel
theorem dH_measure_51 : decode prog_8_method_2_code 51 = .ok (.iconst 0, 1) := by decide +kernel
theorem dH_measure_52 : decode prog_8_method_2_code 52 = .ok (.aload_n 1, 1) := by decide +kernel
theorem dH_measure_53 : decode prog_8_method_2_code 53 = .ok (.getfield 25, 3) := by decide +kernel
theorem dH_measure_56 : decode prog_8_method_2_code 56 = .ok (.iload_n 3, 1) := by decide +kernel
theorem dH_measure_57 : decode prog_8_method_2_code 57 = .ok (.iaload, 1) := by decide +kernel
theorem dH_measure_58 : decode prog_8_method_2_code 58 = .ok (.invokevirtual 29, 3) := by decide +kernel
theorem dH_measure_61 : decode prog_8_method_2_code 61 = .ok (.iinc 3 (1), 3) := by decide +kernel
theorem dH_measure_64 : decode prog_8_method_2_code 64 = .ok (.goto (-62), 3) := by decide +kernel
theorem dH_measure_67 : decode prog_8_method_2_code 67 = .ok (.iconst 0, 1) := by decide +kernel
theorem dH_measure_68 : decode prog_8_method_2_code 68 = .ok (.istore_n 3, 1) := by decide +kernel
theorem dH_measure_69 : decode prog_8_method_2_code 69 = .ok (.iload_n 3, 1) := by decide +kernel
theorem dH_measure_70 : decode prog_8_method_2_code 70 = .ok (.bipush (27), 2) := by decide +kernel
theorem dH_measure_72 : decode prog_8_method_2_code 72 = .ok (.if_icmp .ge (16), 3) := by decide +kernel
theorem dH_measure_75 : decode prog_8_method_2_code 75 = .ok (.aload_n 0, 1) := by decide +kernel
theorem dH_measure_76 : decode prog_8_method_2_code 76 = .ok (.aload_n 1, 1) := by decide +kernel
theorem dH_measure_77 : decode prog_8_method_2_code 77 = .ok (.aload_n 2, 1) := by decide +kernel
theorem dH_measure_78 : decode prog_8_method_2_code 78 = .ok (.iload_n 3, 1) := by decide +kernel
theorem dH_measure_79 : decode prog_8_method_2_code 79 = .ok (.invokevirtual 33, 3) := by decide +kernel
theorem dH_measure_82 : decode prog_8_method_2_code 82 = .ok (.iinc 3 (1), 3) := by decide +kernel
theorem dH_measure_85 : decode prog_8_method_2_code 85 = .ok (.goto (-16), 3) := by decide +kernel
theorem dH_measure_88 : decode prog_8_method_2_code 88 = .ok (.iconst 1, 1) := by decide +kernel
theorem dH_measure_89 : decode prog_8_method_2_code 89 = .ok (.istore_n 3, 1) := by decide +kernel
theorem dH_measure_90 : decode prog_8_method_2_code 90 = .ok (.iload_n 3, 1) := by decide +kernel
theorem dH_measure_91 : decode prog_8_method_2_code 91 = .ok (.aload_n 1, 1) := by decide +kernel
theorem dH_measure_92 : decode prog_8_method_2_code 92 = .ok (.getfield 19, 3) := by decide +kernel
theorem dH_measure_95 : decode prog_8_method_2_code 95 = .ok (.if_icmp .gt (35), 3) := by decide +kernel
theorem dH_measure_98 : decode prog_8_method_2_code 98 = .ok (.iconst 1, 1) := by decide +kernel
theorem dH_measure_99 : decode prog_8_method_2_code 99 = .ok (.istore 4, 2) := by decide +kernel
theorem dH_measure_101 : decode prog_8_method_2_code 101 = .ok (.iload 4, 2) := by decide +kernel
theorem dH_measure_103 : decode prog_8_method_2_code 103 = .ok (.aload_n 1, 1) := by decide +kernel
theorem dH_measure_104 : decode prog_8_method_2_code 104 = .ok (.getfield 19, 3) := by decide +kernel
theorem dH_measure_107 : decode prog_8_method_2_code 107 = .ok (.if_icmp .gt (17), 3) := by decide +kernel
theorem dH_measure_110 : decode prog_8_method_2_code 110 = .ok (.aload_n 0, 1) := by decide +kernel
theorem dH_measure_111 : decode prog_8_method_2_code 111 = .ok (.aload_n 1, 1) := by decide +kernel
theorem dH_measure_112 : decode prog_8_method_2_code 112 = .ok (.iload 4, 2) := by decide +kernel
theorem dH_measure_114 : decode prog_8_method_2_code 114 = .ok (.iload_n 3, 1) := by decide +kernel
theorem dH_measure_115 : decode prog_8_method_2_code 115 = .ok (.invokevirtual 37, 3) := by decide +kernel
theorem dH_measure_118 : decode prog_8_method_2_code 118 = .ok (.iinc 4 (1), 3) := by decide +kernel
theorem dH_measure_121 : decode prog_8_method_2_code 121 = .ok (.goto (-20), 3) := by decide +kernel
theorem dH_measure_124 : decode prog_8_method_2_code 124 = .ok (.iinc 3 (1), 3) := by decide +kernel
theorem dH_measure_127 : decode prog_8_method_2_code 127 = .ok (.goto (-37), 3) := by decide +kernel
theorem dH_measure_130 : decode prog_8_method_2_code 130 = .ok (.return_, 1) := by decide +kernel
theorem dH_longestUnregistered_0 : decode prog_8_method_3_code 0 = .ok (.iconst 0, 1) := by decide +kernel
theorem dH_longestUnregistered_1 : decode prog_8_method_3_code 1 = .ok (.istore_n 2, 1) := by decide +kernel
theorem dH_longestUnregistered_2 : decode prog_8_method_3_code 2 = .ok (.iconst 1, 1) := by decide +kernel
theorem dH_longestUnregistered_3 : decode prog_8_method_3_code 3 = .ok (.istore_n 3, 1) := by decide +kernel
theorem dH_longestUnregistered_4 : decode prog_8_method_3_code 4 = .ok (.iload_n 3, 1) := by decide +kernel
theorem dH_longestUnregistered_5 : decode prog_8_method_3_code 5 = .ok (.iload_n 1, 1) := by decide +kernel
theorem dH_longestUnregistered_6 : decode prog_8_method_3_code 6 = .ok (.if_icmp .gt (50), 3) := by decide +kernel
theorem dH_longestUnregistered_9 : decode prog_8_method_3_code 9 = .ok (.iconst 1, 1) := by decide +kernel
theorem dH_longestUnregistered_10 : decode prog_8_method_3_code 10 = .ok (.istore 4, 2) := by decide +kernel
theorem dH_longestUnregistered_12 : decode prog_8_method_3_code 12 = .ok (.iload 4, 2) := by decide +kernel
theorem dH_longestUnregistered_14 : decode prog_8_method_3_code 14 = .ok (.iload_n 1, 1) := by decide +kernel
theorem dH_longestUnregistered_15 : decode prog_8_method_3_code 15 = .ok (.if_icmp .gt (35), 3) := by decide +kernel
theorem dH_longestUnregistered_18 : decode prog_8_method_3_code 18 = .ok (.aload_n 0, 1) := by decide +kernel
theorem dH_longestUnregistered_19 : decode prog_8_method_3_code 19 = .ok (.getfield 11, 3) := by decide +kernel
theorem dH_longestUnregistered_22 : decode prog_8_method_3_code 22 = .ok (.iload_n 3, 1) := by decide +kernel
theorem dH_longestUnregistered_23 : decode prog_8_method_3_code 23 = .ok (.aaload, 1) := by decide +kernel
theorem dH_longestUnregistered_24 : decode prog_8_method_3_code 24 = .ok (.iload 4, 2) := by decide +kernel
theorem dH_longestUnregistered_26 : decode prog_8_method_3_code 26 = .ok (.iaload, 1) := by decide +kernel
theorem dH_longestUnregistered_27 : decode prog_8_method_3_code 27 = .ok (.ifCond .ne (17), 3) := by decide +kernel
theorem dH_longestUnregistered_30 : decode prog_8_method_3_code 30 = .ok (.iload_n 2, 1) := by decide +kernel
theorem dH_longestUnregistered_31 : decode prog_8_method_3_code 31 = .ok (.aload_n 0, 1) := by decide +kernel
theorem dH_longestUnregistered_32 : decode prog_8_method_3_code 32 = .ok (.getfield 16, 3) := by decide +kernel
theorem dH_longestUnregistered_35 : decode prog_8_method_3_code 35 = .ok (.iload_n 3, 1) := by decide +kernel
theorem dH_longestUnregistered_36 : decode prog_8_method_3_code 36 = .ok (.aaload, 1) := by decide +kernel
theorem dH_longestUnregistered_37 : decode prog_8_method_3_code 37 = .ok (.iload 4, 2) := by decide +kernel
theorem dH_longestUnregistered_39 : decode prog_8_method_3_code 39 = .ok (.iaload, 1) := by decide +kernel
theorem dH_longestUnregistered_40 : decode prog_8_method_3_code 40 = .ok (.invokestatic 41, 3) := by decide +kernel
theorem dH_longestUnregistered_43 : decode prog_8_method_3_code 43 = .ok (.istore_n 2, 1) := by decide +kernel
theorem dH_longestUnregistered_44 : decode prog_8_method_3_code 44 = .ok (.iinc 4 (1), 3) := by decide +kernel
theorem dH_longestUnregistered_47 : decode prog_8_method_3_code 47 = .ok (.goto (-35), 3) := by decide +kernel
theorem dH_longestUnregistered_50 : decode prog_8_method_3_code 50 = .ok (.iinc 3 (1), 3) := by decide +kernel
theorem dH_longestUnregistered_53 : decode prog_8_method_3_code 53 = .ok (.goto (-49), 3) := by decide +kernel
theorem dH_longestUnregistered_56 : decode prog_8_method_3_code 56 = .ok (.iload_n 2, 1) := by decide +kernel
theorem dH_longestUnregistered_57 : decode prog_8_method_3_code 57 = .ok (.ireturn, 1) := by decide +kernel
theorem dH_offerWire_0 : decode prog_8_method_4_code 0 = .ok (.aload_n 1, 1) := by decide +kernel
theorem dH_offerWire_1 : decode prog_8_method_4_code 1 = .ok (.iload_n 3, 1) := by decide +kernel
theorem dH_offerWire_2 : decode prog_8_method_4_code 2 = .ok (.invokevirtual 47, 3) := by decide +kernel
theorem dH_offerWire_5 : decode prog_8_method_4_code 5 = .ok (.istore 4, 2) := by decide +kernel
theorem dH_offerWire_7 : decode prog_8_method_4_code 7 = .ok (.aload_n 1, 1) := by decide +kernel
theorem dH_offerWire_8 : decode prog_8_method_4_code 8 = .ok (.iload_n 3, 1) := by decide +kernel
theorem dH_offerWire_9 : decode prog_8_method_4_code 9 = .ok (.invokevirtual 51, 3) := by decide +kernel
theorem dH_offerWire_12 : decode prog_8_method_4_code 12 = .ok (.istore 5, 2) := by decide +kernel
theorem dH_offerWire_14 : decode prog_8_method_4_code 14 = .ok (.iload 4, 2) := by decide +kernel
theorem dH_offerWire_16 : decode prog_8_method_4_code 16 = .ok (.ifCond .eq (36), 3) := by decide +kernel
theorem dH_offerWire_19 : decode prog_8_method_4_code 19 = .ok (.iload 5, 2) := by decide +kernel
theorem dH_offerWire_21 : decode prog_8_method_4_code 21 = .ok (.ifCond .eq (31), 3) := by decide +kernel
theorem dH_offerWire_24 : decode prog_8_method_4_code 24 = .ok (.aload_n 0, 1) := by decide +kernel
theorem dH_offerWire_25 : decode prog_8_method_4_code 25 = .ok (.iload 4, 2) := by decide +kernel
theorem dH_offerWire_27 : decode prog_8_method_4_code 27 = .ok (.iload 5, 2) := by decide +kernel
theorem dH_offerWire_29 : decode prog_8_method_4_code 29 = .ok (.aload_n 2, 1) := by decide +kernel
theorem dH_offerWire_30 : decode prog_8_method_4_code 30 = .ok (.iload_n 3, 1) := by decide +kernel
theorem dH_offerWire_31 : decode prog_8_method_4_code 31 = .ok (.invokevirtual 54, 3) := by decide +kernel
theorem dH_offerWire_34 : decode prog_8_method_4_code 34 = .ok (.aload_n 1, 1) := by decide +kernel
theorem dH_offerWire_35 : decode prog_8_method_4_code 35 = .ok (.getfield 25, 3) := by decide +kernel
theorem dH_offerWire_38 : decode prog_8_method_4_code 38 = .ok (.iload 4, 2) := by decide +kernel
theorem dH_offerWire_40 : decode prog_8_method_4_code 40 = .ok (.iaload, 1) := by decide +kernel
theorem dH_offerWire_41 : decode prog_8_method_4_code 41 = .ok (.aload_n 1, 1) := by decide +kernel
theorem dH_offerWire_42 : decode prog_8_method_4_code 42 = .ok (.getfield 25, 3) := by decide +kernel
theorem dH_offerWire_45 : decode prog_8_method_4_code 45 = .ok (.iload 5, 2) := by decide +kernel
theorem dH_offerWire_47 : decode prog_8_method_4_code 47 = .ok (.iaload, 1) := by decide +kernel
theorem dH_offerWire_48 : decode prog_8_method_4_code 48 = .ok (.iadd, 1) := by decide +kernel
theorem dH_offerWire_49 : decode prog_8_method_4_code 49 = .ok (.invokevirtual 29, 3) := by decide +kernel
theorem dH_offerWire_52 : decode prog_8_method_4_code 52 = .ok (.return_, 1) := by decide +kernel
theorem dH_offerOver_0 : decode prog_8_method_5_code 0 = .ok (.aload_n 0, 1) := by decide +kernel
theorem dH_offerOver_1 : decode prog_8_method_5_code 1 = .ok (.getfield 11, 3) := by decide +kernel
theorem dH_offerOver_4 : decode prog_8_method_5_code 4 = .ok (.iload_n 2, 1) := by decide +kernel
theorem dH_offerOver_5 : decode prog_8_method_5_code 5 = .ok (.aaload, 1) := by decide +kernel
theorem dH_offerOver_6 : decode prog_8_method_5_code 6 = .ok (.iload_n 3, 1) := by decide +kernel
theorem dH_offerOver_7 : decode prog_8_method_5_code 7 = .ok (.iaload, 1) := by decide +kernel
theorem dH_offerOver_8 : decode prog_8_method_5_code 8 = .ok (.iconst (-1), 1) := by decide +kernel
theorem dH_offerOver_9 : decode prog_8_method_5_code 9 = .ok (.if_icmp .ne (4), 3) := by decide +kernel
theorem dH_offerOver_12 : decode prog_8_method_5_code 12 = .ok (.return_, 1) := by decide +kernel
theorem dH_offerOver_13 : decode prog_8_method_5_code 13 = .ok (.iconst 1, 1) := by decide +kernel
theorem dH_offerOver_14 : decode prog_8_method_5_code 14 = .ok (.istore 4, 2) := by decide +kernel
theorem dH_offerOver_16 : decode prog_8_method_5_code 16 = .ok (.iload 4, 2) := by decide +kernel
theorem dH_offerOver_18 : decode prog_8_method_5_code 18 = .ok (.aload_n 1, 1) := by decide +kernel
theorem dH_offerOver_19 : decode prog_8_method_5_code 19 = .ok (.getfield 19, 3) := by decide +kernel
theorem dH_offerOver_22 : decode prog_8_method_5_code 22 = .ok (.if_icmp .gt (76), 3) := by decide +kernel
theorem dH_offerOver_25 : decode prog_8_method_5_code 25 = .ok (.aload_n 0, 1) := by decide +kernel
theorem dH_offerOver_26 : decode prog_8_method_5_code 26 = .ok (.getfield 11, 3) := by decide +kernel
theorem dH_offerOver_29 : decode prog_8_method_5_code 29 = .ok (.iload_n 3, 1) := by decide +kernel
theorem dH_offerOver_30 : decode prog_8_method_5_code 30 = .ok (.aaload, 1) := by decide +kernel
theorem dH_offerOver_31 : decode prog_8_method_5_code 31 = .ok (.iload 4, 2) := by decide +kernel
theorem dH_offerOver_33 : decode prog_8_method_5_code 33 = .ok (.iaload, 1) := by decide +kernel
theorem dH_offerOver_34 : decode prog_8_method_5_code 34 = .ok (.iconst (-1), 1) := by decide +kernel
theorem dH_offerOver_35 : decode prog_8_method_5_code 35 = .ok (.if_icmp .eq (57), 3) := by decide +kernel
theorem dH_offerOver_38 : decode prog_8_method_5_code 38 = .ok (.aload_n 0, 1) := by decide +kernel
theorem dH_offerOver_39 : decode prog_8_method_5_code 39 = .ok (.getfield 16, 3) := by decide +kernel
theorem dH_offerOver_42 : decode prog_8_method_5_code 42 = .ok (.iload_n 2, 1) := by decide +kernel
theorem dH_offerOver_43 : decode prog_8_method_5_code 43 = .ok (.aaload, 1) := by decide +kernel
theorem dH_offerOver_44 : decode prog_8_method_5_code 44 = .ok (.iload_n 3, 1) := by decide +kernel
theorem dH_offerOver_45 : decode prog_8_method_5_code 45 = .ok (.iaload, 1) := by decide +kernel
theorem dH_offerOver_46 : decode prog_8_method_5_code 46 = .ok (.aload_n 0, 1) := by decide +kernel
theorem dH_offerOver_47 : decode prog_8_method_5_code 47 = .ok (.getfield 16, 3) := by decide +kernel
theorem dH_offerOver_50 : decode prog_8_method_5_code 50 = .ok (.iload_n 3, 1) := by decide +kernel
theorem dH_offerOver_51 : decode prog_8_method_5_code 51 = .ok (.aaload, 1) := by decide +kernel
theorem dH_offerOver_52 : decode prog_8_method_5_code 52 = .ok (.iload 4, 2) := by decide +kernel
theorem dH_offerOver_54 : decode prog_8_method_5_code 54 = .ok (.iaload, 1) := by decide +kernel
theorem dH_offerOver_55 : decode prog_8_method_5_code 55 = .ok (.iadd, 1) := by decide +kernel
theorem dH_offerOver_56 : decode prog_8_method_5_code 56 = .ok (.aload_n 1, 1) := by decide +kernel
theorem dH_offerOver_57 : decode prog_8_method_5_code 57 = .ok (.getfield 25, 3) := by decide +kernel
theorem dH_offerOver_60 : decode prog_8_method_5_code 60 = .ok (.iload_n 3, 1) := by decide +kernel
theorem dH_offerOver_61 : decode prog_8_method_5_code 61 = .ok (.iaload, 1) := by decide +kernel
theorem dH_offerOver_62 : decode prog_8_method_5_code 62 = .ok (.isub, 1) := by decide +kernel
theorem dH_offerOver_63 : decode prog_8_method_5_code 63 = .ok (.istore 5, 2) := by decide +kernel
theorem dH_offerOver_65 : decode prog_8_method_5_code 65 = .ok (.aload_n 0, 1) := by decide +kernel
theorem dH_offerOver_66 : decode prog_8_method_5_code 66 = .ok (.iload_n 2, 1) := by decide +kernel
theorem dH_offerOver_67 : decode prog_8_method_5_code 67 = .ok (.iload 4, 2) := by decide +kernel
theorem dH_offerOver_69 : decode prog_8_method_5_code 69 = .ok (.aload_n 0, 1) := by decide +kernel
theorem dH_offerOver_70 : decode prog_8_method_5_code 70 = .ok (.getfield 11, 3) := by decide +kernel
theorem dH_offerOver_73 : decode prog_8_method_5_code 73 = .ok (.iload_n 2, 1) := by decide +kernel
theorem dH_offerOver_74 : decode prog_8_method_5_code 74 = .ok (.aaload, 1) := by decide +kernel
theorem dH_offerOver_75 : decode prog_8_method_5_code 75 = .ok (.iload_n 3, 1) := by decide +kernel
theorem dH_offerOver_76 : decode prog_8_method_5_code 76 = .ok (.iaload, 1) := by decide +kernel
theorem dH_offerOver_77 : decode prog_8_method_5_code 77 = .ok (.aload_n 0, 1) := by decide +kernel
theorem dH_offerOver_78 : decode prog_8_method_5_code 78 = .ok (.getfield 11, 3) := by decide +kernel
theorem dH_offerOver_81 : decode prog_8_method_5_code 81 = .ok (.iload_n 3, 1) := by decide +kernel
theorem dH_offerOver_82 : decode prog_8_method_5_code 82 = .ok (.aaload, 1) := by decide +kernel
theorem dH_offerOver_83 : decode prog_8_method_5_code 83 = .ok (.iload 4, 2) := by decide +kernel
theorem dH_offerOver_85 : decode prog_8_method_5_code 85 = .ok (.iaload, 1) := by decide +kernel
theorem dH_offerOver_86 : decode prog_8_method_5_code 86 = .ok (.iadd, 1) := by decide +kernel
theorem dH_offerOver_87 : decode prog_8_method_5_code 87 = .ok (.iload 5, 2) := by decide +kernel
theorem dH_offerOver_89 : decode prog_8_method_5_code 89 = .ok (.invokevirtual 29, 3) := by decide +kernel
theorem dH_offerOver_92 : decode prog_8_method_5_code 92 = .ok (.iinc 4 (1), 3) := by decide +kernel
theorem dH_offerOver_95 : decode prog_8_method_5_code 95 = .ok (.goto (-79), 3) := by decide +kernel
theorem dH_offerOver_98 : decode prog_8_method_5_code 98 = .ok (.return_, 1) := by decide +kernel
theorem dH_offer_0 : decode prog_8_method_6_code 0 = .ok (.aload_n 0, 1) := by decide +kernel
theorem dH_offer_1 : decode prog_8_method_6_code 1 = .ok (.getfield 11, 3) := by decide +kernel
theorem dH_offer_4 : decode prog_8_method_6_code 4 = .ok (.iload_n 1, 1) := by decide +kernel
theorem dH_offer_5 : decode prog_8_method_6_code 5 = .ok (.aaload, 1) := by decide +kernel
theorem dH_offer_6 : decode prog_8_method_6_code 6 = .ok (.iload_n 2, 1) := by decide +kernel
theorem dH_offer_7 : decode prog_8_method_6_code 7 = .ok (.iaload, 1) := by decide +kernel
theorem dH_offer_8 : decode prog_8_method_6_code 8 = .ok (.istore 5, 2) := by decide +kernel
theorem dH_offer_10 : decode prog_8_method_6_code 10 = .ok (.iload 5, 2) := by decide +kernel
theorem dH_offer_12 : decode prog_8_method_6_code 12 = .ok (.iconst (-1), 1) := by decide +kernel
theorem dH_offer_13 : decode prog_8_method_6_code 13 = .ok (.if_icmp .eq (28), 3) := by decide +kernel
theorem dH_offer_16 : decode prog_8_method_6_code 16 = .ok (.iload_n 3, 1) := by decide +kernel
theorem dH_offer_17 : decode prog_8_method_6_code 17 = .ok (.iload 5, 2) := by decide +kernel
theorem dH_offer_19 : decode prog_8_method_6_code 19 = .ok (.if_icmp .lt (22), 3) := by decide +kernel
theorem dH_offer_22 : decode prog_8_method_6_code 22 = .ok (.iload_n 3, 1) := by decide +kernel
theorem dH_offer_23 : decode prog_8_method_6_code 23 = .ok (.iload 5, 2) := by decide +kernel
theorem dH_offer_25 : decode prog_8_method_6_code 25 = .ok (.if_icmp .ne (35), 3) := by decide +kernel
theorem dH_offer_28 : decode prog_8_method_6_code 28 = .ok (.iload 4, 2) := by decide +kernel
theorem dH_offer_30 : decode prog_8_method_6_code 30 = .ok (.aload_n 0, 1) := by decide +kernel
theorem dH_offer_31 : decode prog_8_method_6_code 31 = .ok (.getfield 16, 3) := by decide +kernel
theorem dH_offer_34 : decode prog_8_method_6_code 34 = .ok (.iload_n 1, 1) := by decide +kernel
theorem dH_offer_35 : decode prog_8_method_6_code 35 = .ok (.aaload, 1) := by decide +kernel
theorem dH_offer_36 : decode prog_8_method_6_code 36 = .ok (.iload_n 2, 1) := by decide +kernel
theorem dH_offer_37 : decode prog_8_method_6_code 37 = .ok (.iaload, 1) := by decide +kernel
theorem dH_offer_38 : decode prog_8_method_6_code 38 = .ok (.if_icmp .le (22), 3) := by decide +kernel
theorem dH_offer_41 : decode prog_8_method_6_code 41 = .ok (.aload_n 0, 1) := by decide +kernel
theorem dH_offer_42 : decode prog_8_method_6_code 42 = .ok (.getfield 11, 3) := by decide +kernel
theorem dH_offer_45 : decode prog_8_method_6_code 45 = .ok (.iload_n 1, 1) := by decide +kernel
theorem dH_offer_46 : decode prog_8_method_6_code 46 = .ok (.aaload, 1) := by decide +kernel
theorem dH_offer_47 : decode prog_8_method_6_code 47 = .ok (.iload_n 2, 1) := by decide +kernel
theorem dH_offer_48 : decode prog_8_method_6_code 48 = .ok (.iload_n 3, 1) := by decide +kernel
theorem dH_offer_49 : decode prog_8_method_6_code 49 = .ok (.iastore, 1) := by decide +kernel
theorem dH_offer_50 : decode prog_8_method_6_code 50 = .ok (.aload_n 0, 1) := by decide +kernel
theorem dH_offer_51 : decode prog_8_method_6_code 51 = .ok (.getfield 16, 3) := by decide +kernel
theorem dH_offer_54 : decode prog_8_method_6_code 54 = .ok (.iload_n 1, 1) := by decide +kernel
theorem dH_offer_55 : decode prog_8_method_6_code 55 = .ok (.aaload, 1) := by decide +kernel
theorem dH_offer_56 : decode prog_8_method_6_code 56 = .ok (.iload_n 2, 1) := by decide +kernel
theorem dH_offer_57 : decode prog_8_method_6_code 57 = .ok (.iload 4, 2) := by decide +kernel
theorem dH_offer_59 : decode prog_8_method_6_code 59 = .ok (.iastore, 1) := by decide +kernel
theorem dH_offer_60 : decode prog_8_method_6_code 60 = .ok (.return_, 1) := by decide +kernel
theorem dP_addGate_0 : decode prog_9_method_2_code 0 = .ok (.aload_n 0, 1) := by decide +kernel
theorem dP_addGate_1 : decode prog_9_method_2_code 1 = .ok (.dup, 1) := by decide +kernel
theorem dP_addGate_2 : decode prog_9_method_2_code 2 = .ok (.getfield 21, 3) := by decide +kernel
theorem dP_addGate_5 : decode prog_9_method_2_code 5 = .ok (.iconst 1, 1) := by decide +kernel
theorem dP_addGate_6 : decode prog_9_method_2_code 6 = .ok (.iadd, 1) := by decide +kernel
theorem dP_addGate_7 : decode prog_9_method_2_code 7 = .ok (.putfield 21, 3) := by decide +kernel
theorem dP_addGate_10 : decode prog_9_method_2_code 10 = .ok (.aload_n 0, 1) := by decide +kernel
theorem dP_addGate_11 : decode prog_9_method_2_code 11 = .ok (.getfield 9, 3) := by decide +kernel
theorem dP_addGate_14 : decode prog_9_method_2_code 14 = .ok (.aload_n 0, 1) := by decide +kernel
theorem dP_addGate_15 : decode prog_9_method_2_code 15 = .ok (.getfield 21, 3) := by decide +kernel
theorem dP_addGate_18 : decode prog_9_method_2_code 18 = .ok (.iload_n 1, 1) := by decide +kernel
theorem dP_addGate_19 : decode prog_9_method_2_code 19 = .ok (.iastore, 1) := by decide +kernel
theorem dP_addGate_20 : decode prog_9_method_2_code 20 = .ok (.aload_n 0, 1) := by decide +kernel
theorem dP_addGate_21 : decode prog_9_method_2_code 21 = .ok (.getfield 15, 3) := by decide +kernel
theorem dP_addGate_24 : decode prog_9_method_2_code 24 = .ok (.aload_n 0, 1) := by decide +kernel
theorem dP_addGate_25 : decode prog_9_method_2_code 25 = .ok (.getfield 21, 3) := by decide +kernel
theorem dP_addGate_28 : decode prog_9_method_2_code 28 = .ok (.iload_n 2, 1) := by decide +kernel
theorem dP_addGate_29 : decode prog_9_method_2_code 29 = .ok (.iastore, 1) := by decide +kernel
theorem dP_addGate_30 : decode prog_9_method_2_code 30 = .ok (.return_, 1) := by decide +kernel
theorem dP_hasGate_0 : decode prog_9_method_3_code 0 = .ok (.iload_n 1, 1) := by decide +kernel
theorem dP_hasGate_1 : decode prog_9_method_3_code 1 = .ok (.iconst 1, 1) := by decide +kernel
theorem dP_hasGate_2 : decode prog_9_method_3_code 2 = .ok (.if_icmp .lt (15), 3) := by decide +kernel
theorem dP_hasGate_5 : decode prog_9_method_3_code 5 = .ok (.iload_n 1, 1) := by decide +kernel
theorem dP_hasGate_6 : decode prog_9_method_3_code 6 = .ok (.aload_n 0, 1) := by decide +kernel
theorem dP_hasGate_7 : decode prog_9_method_3_code 7 = .ok (.getfield 21, 3) := by decide +kernel
theorem dP_hasGate_10 : decode prog_9_method_3_code 10 = .ok (.if_icmp .gt (7), 3) := by decide +kernel
theorem dP_hasGate_13 : decode prog_9_method_3_code 13 = .ok (.iconst 1, 1) := by decide +kernel
theorem dP_hasGate_14 : decode prog_9_method_3_code 14 = .ok (.goto (4), 3) := by decide +kernel
theorem dP_hasGate_17 : decode prog_9_method_3_code 17 = .ok (.iconst 0, 1) := by decide +kernel
theorem dP_hasGate_18 : decode prog_9_method_3_code 18 = .ok (.ireturn, 1) := by decide +kernel
theorem dP_hasEnd_0 : decode prog_9_method_4_code 0 = .ok (.aload_n 0, 1) := by decide +kernel
theorem dP_hasEnd_1 : decode prog_9_method_4_code 1 = .ok (.iload_n 1, 1) := by decide +kernel
theorem dP_hasEnd_2 : decode prog_9_method_4_code 2 = .ok (.invokevirtual 25, 3) := by decide +kernel
theorem dP_hasEnd_5 : decode prog_9_method_4_code 5 = .ok (.ifCond .ne (10), 3) := by decide +kernel
theorem dP_hasEnd_8 : decode prog_9_method_4_code 8 = .ok (.iload_n 1, 1) := by decide +kernel
theorem dP_hasEnd_9 : decode prog_9_method_4_code 9 = .ok (.invokestatic 29, 3) := by decide +kernel
theorem dP_hasEnd_12 : decode prog_9_method_4_code 12 = .ok (.ifCond .eq (7), 3) := by decide +kernel
theorem dP_hasEnd_15 : decode prog_9_method_4_code 15 = .ok (.iconst 1, 1) := by decide +kernel
theorem dP_hasEnd_16 : decode prog_9_method_4_code 16 = .ok (.goto (4), 3) := by decide +kernel
theorem dP_hasEnd_19 : decode prog_9_method_4_code 19 = .ok (.iconst 0, 1) := by decide +kernel
theorem dP_hasEnd_20 : decode prog_9_method_4_code 20 = .ok (.ireturn, 1) := by decide +kernel
theorem dP_placeOf_0 : decode prog_9_method_5_code 0 = .ok (.iload_n 2, 1) := by decide +kernel
theorem dP_placeOf_1 : decode prog_9_method_5_code 1 = .ok (.ifCond .ge (5), 3) := by decide +kernel
theorem dP_placeOf_4 : decode prog_9_method_5_code 4 = .ok (.iconst (-1), 1) := by decide +kernel
theorem dP_placeOf_5 : decode prog_9_method_5_code 5 = .ok (.ireturn, 1) := by decide +kernel
theorem dP_placeOf_6 : decode prog_9_method_5_code 6 = .ok (.aload_n 0, 1) := by decide +kernel
theorem dP_placeOf_7 : decode prog_9_method_5_code 7 = .ok (.iload_n 1, 1) := by decide +kernel
theorem dP_placeOf_8 : decode prog_9_method_5_code 8 = .ok (.invokevirtual 25, 3) := by decide +kernel
theorem dP_placeOf_11 : decode prog_9_method_5_code 11 = .ok (.ifCond .eq (24), 3) := by decide +kernel
theorem dP_placeOf_14 : decode prog_9_method_5_code 14 = .ok (.iload_n 2, 1) := by decide +kernel
theorem dP_placeOf_15 : decode prog_9_method_5_code 15 = .ok (.aload_n 0, 1) := by decide +kernel
theorem dP_placeOf_16 : decode prog_9_method_5_code 16 = .ok (.iload_n 1, 1) := by decide +kernel
theorem dP_placeOf_17 : decode prog_9_method_5_code 17 = .ok (.invokevirtual 32, 3) := by decide +kernel
theorem dP_placeOf_20 : decode prog_9_method_5_code 20 = .ok (.if_icmp .ge (13), 3) := by decide +kernel
theorem dP_placeOf_23 : decode prog_9_method_5_code 23 = .ok (.aload_n 0, 1) := by decide +kernel
theorem dP_placeOf_24 : decode prog_9_method_5_code 24 = .ok (.iload_n 1, 1) := by decide +kernel
theorem dP_placeOf_25 : decode prog_9_method_5_code 25 = .ok (.invokevirtual 36, 3) := by decide +kernel
theorem dP_placeOf_28 : decode prog_9_method_5_code 28 = .ok (.iload_n 2, 1) := by decide +kernel
theorem dP_placeOf_29 : decode prog_9_method_5_code 29 = .ok (.iadd, 1) := by decide +kernel
theorem dP_placeOf_30 : decode prog_9_method_5_code 30 = .ok (.goto (4), 3) := by decide +kernel
theorem dP_placeOf_33 : decode prog_9_method_5_code 33 = .ok (.iconst (-1), 1) := by decide +kernel
theorem dP_placeOf_34 : decode prog_9_method_5_code 34 = .ok (.ireturn, 1) := by decide +kernel
theorem dP_placeOf_35 : decode prog_9_method_5_code 35 = .ok (.iload_n 1, 1) := by decide +kernel
theorem dP_placeOf_36 : decode prog_9_method_5_code 36 = .ok (.invokestatic 29, 3) := by decide +kernel
theorem dP_placeOf_39 : decode prog_9_method_5_code 39 = .ok (.ifCond .eq (14), 3) := by decide +kernel
theorem dP_placeOf_42 : decode prog_9_method_5_code 42 = .ok (.iload_n 2, 1) := by decide +kernel
theorem dP_placeOf_43 : decode prog_9_method_5_code 43 = .ok (.ifCond .ne (10), 3) := by decide +kernel
theorem dP_placeOf_46 : decode prog_9_method_5_code 46 = .ok (.bipush (23), 2) := by decide +kernel
theorem dP_placeOf_48 : decode prog_9_method_5_code 48 = .ok (.iload_n 1, 1) := by decide +kernel
theorem dP_placeOf_49 : decode prog_9_method_5_code 49 = .ok (.isub, 1) := by decide +kernel
theorem dP_placeOf_50 : decode prog_9_method_5_code 50 = .ok (.goto (4), 3) := by decide +kernel
theorem dP_placeOf_53 : decode prog_9_method_5_code 53 = .ok (.iconst (-1), 1) := by decide +kernel
theorem dP_placeOf_54 : decode prog_9_method_5_code 54 = .ok (.ireturn, 1) := by decide +kernel
theorem dP_pinsOf_0 : decode prog_9_method_6_code 0 = .ok (.aload_n 0, 1) := by decide +kernel
theorem dP_pinsOf_1 : decode prog_9_method_6_code 1 = .ok (.getfield 9, 3) := by decide +kernel
theorem dP_pinsOf_4 : decode prog_9_method_6_code 4 = .ok (.iload_n 1, 1) := by decide +kernel
theorem dP_pinsOf_5 : decode prog_9_method_6_code 5 = .ok (.iaload, 1) := by decide +kernel
theorem dP_pinsOf_6 : decode prog_9_method_6_code 6 = .ok (.iconst 1, 1) := by decide +kernel
theorem dP_pinsOf_7 : decode prog_9_method_6_code 7 = .ok (.if_icmp .gt (7), 3) := by decide +kernel
theorem dP_pinsOf_10 : decode prog_9_method_6_code 10 = .ok (.iconst 1, 1) := by decide +kernel
theorem dP_pinsOf_11 : decode prog_9_method_6_code 11 = .ok (.goto (4), 3) := by decide +kernel
theorem dP_pinsOf_14 : decode prog_9_method_6_code 14 = .ok (.iconst 2, 1) := by decide +kernel
theorem dP_pinsOf_15 : decode prog_9_method_6_code 15 = .ok (.ireturn, 1) := by decide +kernel
theorem dP_firstPin_0 : decode prog_9_method_7_code 0 = .ok (.iconst 2, 1) := by decide +kernel
theorem dP_firstPin_1 : decode prog_9_method_7_code 1 = .ok (.iload_n 1, 1) := by decide +kernel
theorem dP_firstPin_2 : decode prog_9_method_7_code 2 = .ok (.iconst 1, 1) := by decide +kernel
theorem dP_firstPin_3 : decode prog_9_method_7_code 3 = .ok (.isub, 1) := by decide +kernel
theorem dP_firstPin_4 : decode prog_9_method_7_code 4 = .ok (.imul, 1) := by decide +kernel
theorem dP_firstPin_5 : decode prog_9_method_7_code 5 = .ok (.ireturn, 1) := by decide +kernel
theorem dP_endOfPins_0 : decode prog_9_method_8_code 0 = .ok (.aload_n 0, 1) := by decide +kernel
theorem dP_endOfPins_1 : decode prog_9_method_8_code 1 = .ok (.iload_n 1, 1) := by decide +kernel
theorem dP_endOfPins_2 : decode prog_9_method_8_code 2 = .ok (.invokevirtual 36, 3) := by decide +kernel
theorem dP_endOfPins_5 : decode prog_9_method_8_code 5 = .ok (.aload_n 0, 1) := by decide +kernel
theorem dP_endOfPins_6 : decode prog_9_method_8_code 6 = .ok (.iload_n 1, 1) := by decide +kernel
theorem dP_endOfPins_7 : decode prog_9_method_8_code 7 = .ok (.invokevirtual 32, 3) := by decide +kernel
theorem dP_endOfPins_10 : decode prog_9_method_8_code 10 = .ok (.iadd, 1) := by decide +kernel
theorem dP_endOfPins_11 : decode prog_9_method_8_code 11 = .ok (.ireturn, 1) := by decide +kernel
theorem dP_gateBehind_0 : decode prog_9_method_9_code 0 = .ok (.aload_n 0, 1) := by decide +kernel
theorem dP_gateBehind_1 : decode prog_9_method_9_code 1 = .ok (.getfield 18, 3) := by decide +kernel
theorem dP_gateBehind_4 : decode prog_9_method_9_code 4 = .ok (.iload_n 1, 1) := by decide +kernel
theorem dP_gateBehind_5 : decode prog_9_method_9_code 5 = .ok (.iaload, 1) := by decide +kernel
theorem dP_gateBehind_6 : decode prog_9_method_9_code 6 = .ok (.iconst 0, 1) := by decide +kernel
theorem dP_gateBehind_7 : decode prog_9_method_9_code 7 = .ok (.invokestatic 39, 3) := by decide +kernel
theorem dP_gateBehind_10 : decode prog_9_method_9_code 10 = .ok (.ireturn, 1) := by decide +kernel
theorem dP_gateBefore_0 : decode prog_9_method_10_code 0 = .ok (.iload_n 1, 1) := by decide +kernel
theorem dP_gateBefore_1 : decode prog_9_method_10_code 1 = .ok (.bipush (24), 2) := by decide +kernel
theorem dP_gateBefore_3 : decode prog_9_method_10_code 3 = .ok (.if_icmp .ge (11), 3) := by decide +kernel
theorem dP_gateBefore_6 : decode prog_9_method_10_code 6 = .ok (.iload_n 1, 1) := by decide +kernel
theorem dP_gateBefore_7 : decode prog_9_method_10_code 7 = .ok (.iconst 2, 1) := by decide +kernel
theorem dP_gateBefore_8 : decode prog_9_method_10_code 8 = .ok (.idiv, 1) := by decide +kernel
theorem dP_gateBefore_9 : decode prog_9_method_10_code 9 = .ok (.iconst 1, 1) := by decide +kernel
theorem dP_gateBefore_10 : decode prog_9_method_10_code 10 = .ok (.iadd, 1) := by decide +kernel
theorem dP_gateBefore_11 : decode prog_9_method_10_code 11 = .ok (.goto (4), 3) := by decide +kernel
theorem dP_gateBefore_14 : decode prog_9_method_10_code 14 = .ok (.iconst 0, 1) := by decide +kernel
theorem dP_gateBefore_15 : decode prog_9_method_10_code 15 = .ok (.ireturn, 1) := by decide +kernel
theorem dP_isComplete_0 : decode prog_9_method_11_code 0 = .ok (.iconst 1, 1) := by decide +kernel
theorem dP_isComplete_1 : decode prog_9_method_11_code 1 = .ok (.istore_n 1, 1) := by decide +kernel
theorem dP_isComplete_2 : decode prog_9_method_11_code 2 = .ok (.iload_n 1, 1) := by decide +kernel
theorem dP_isComplete_3 : decode prog_9_method_11_code 3 = .ok (.aload_n 0, 1) := by decide +kernel
theorem dP_isComplete_4 : decode prog_9_method_11_code 4 = .ok (.getfield 21, 3) := by decide +kernel
theorem dP_isComplete_7 : decode prog_9_method_11_code 7 = .ok (.if_icmp .gt (27), 3) := by decide +kernel
theorem dP_isComplete_10 : decode prog_9_method_11_code 10 = .ok (.aload_n 0, 1) := by decide +kernel
theorem dP_isComplete_11 : decode prog_9_method_11_code 11 = .ok (.iload_n 1, 1) := by decide +kernel
theorem dP_isComplete_12 : decode prog_9_method_11_code 12 = .ok (.invokevirtual 45, 3) := by decide +kernel
theorem dP_isComplete_15 : decode prog_9_method_11_code 15 = .ok (.ifCond .eq (11), 3) := by decide +kernel
theorem dP_isComplete_18 : decode prog_9_method_11_code 18 = .ok (.aload_n 0, 1) := by decide +kernel
theorem dP_isComplete_19 : decode prog_9_method_11_code 19 = .ok (.iload_n 1, 1) := by decide +kernel
theorem dP_isComplete_20 : decode prog_9_method_11_code 20 = .ok (.invokevirtual 48, 3) := by decide +kernel
theorem dP_isComplete_23 : decode prog_9_method_11_code 23 = .ok (.ifCond .ne (5), 3) := by decide +kernel
theorem dP_isComplete_26 : decode prog_9_method_11_code 26 = .ok (.iconst 0, 1) := by decide +kernel
theorem dP_isComplete_27 : decode prog_9_method_11_code 27 = .ok (.ireturn, 1) := by decide +kernel
theorem dP_isComplete_28 : decode prog_9_method_11_code 28 = .ok (.iinc 1 (1), 3) := by decide +kernel
theorem dP_isComplete_31 : decode prog_9_method_11_code 31 = .ok (.goto (-29), 3) := by decide +kernel
theorem dP_isComplete_34 : decode prog_9_method_11_code 34 = .ok (.iconst 1, 1) := by decide +kernel
theorem dP_isComplete_35 : decode prog_9_method_11_code 35 = .ok (.ireturn, 1) := by decide +kernel
theorem dP_isPort_0 : decode prog_9_method_12_code 0 = .ok (.iload_n 0, 1) := by decide +kernel
theorem dP_isPort_1 : decode prog_9_method_12_code 1 = .ok (.bipush (-3), 2) := by decide +kernel
theorem dP_isPort_3 : decode prog_9_method_12_code 3 = .ok (.if_icmp .lt (12), 3) := by decide +kernel
theorem dP_isPort_6 : decode prog_9_method_12_code 6 = .ok (.iload_n 0, 1) := by decide +kernel
theorem dP_isPort_7 : decode prog_9_method_12_code 7 = .ok (.iconst (-1), 1) := by decide +kernel
theorem dP_isPort_8 : decode prog_9_method_12_code 8 = .ok (.if_icmp .gt (7), 3) := by decide +kernel
theorem dP_isPort_11 : decode prog_9_method_12_code 11 = .ok (.iconst 1, 1) := by decide +kernel
theorem dP_isPort_12 : decode prog_9_method_12_code 12 = .ok (.goto (4), 3) := by decide +kernel
theorem dP_isPort_15 : decode prog_9_method_12_code 15 = .ok (.iconst 0, 1) := by decide +kernel
theorem dP_isPort_16 : decode prog_9_method_12_code 16 = .ok (.ireturn, 1) := by decide +kernel
theorem dP_hasAllPins_0 : decode prog_9_method_13_code 0 = .ok (.aload_n 0, 1) := by decide +kernel
theorem dP_hasAllPins_1 : decode prog_9_method_13_code 1 = .ok (.iload_n 1, 1) := by decide +kernel
theorem dP_hasAllPins_2 : decode prog_9_method_13_code 2 = .ok (.invokevirtual 36, 3) := by decide +kernel
theorem dP_hasAllPins_5 : decode prog_9_method_13_code 5 = .ok (.istore_n 2, 1) := by decide +kernel
theorem dP_hasAllPins_6 : decode prog_9_method_13_code 6 = .ok (.iload_n 2, 1) := by decide +kernel
theorem dP_hasAllPins_7 : decode prog_9_method_13_code 7 = .ok (.aload_n 0, 1) := by decide +kernel
theorem dP_hasAllPins_8 : decode prog_9_method_13_code 8 = .ok (.iload_n 1, 1) := by decide +kernel
theorem dP_hasAllPins_9 : decode prog_9_method_13_code 9 = .ok (.invokevirtual 51, 3) := by decide +kernel
theorem dP_hasAllPins_12 : decode prog_9_method_13_code 12 = .ok (.if_icmp .ge (20), 3) := by decide +kernel
theorem dP_hasAllPins_15 : decode prog_9_method_13_code 15 = .ok (.aload_n 0, 1) := by decide +kernel
theorem dP_hasAllPins_16 : decode prog_9_method_13_code 16 = .ok (.getfield 18, 3) := by decide +kernel
theorem dP_hasAllPins_19 : decode prog_9_method_13_code 19 = .ok (.iload_n 2, 1) := by decide +kernel
theorem dP_hasAllPins_20 : decode prog_9_method_13_code 20 = .ok (.iaload, 1) := by decide +kernel
theorem dP_hasAllPins_21 : decode prog_9_method_13_code 21 = .ok (.ifCond .ne (5), 3) := by decide +kernel
theorem dP_hasAllPins_24 : decode prog_9_method_13_code 24 = .ok (.iconst 0, 1) := by decide +kernel
theorem dP_hasAllPins_25 : decode prog_9_method_13_code 25 = .ok (.ireturn, 1) := by decide +kernel
theorem dP_hasAllPins_26 : decode prog_9_method_13_code 26 = .ok (.iinc 2 (1), 3) := by decide +kernel
theorem dP_hasAllPins_29 : decode prog_9_method_13_code 29 = .ok (.goto (-23), 3) := by decide +kernel
theorem dP_hasAllPins_32 : decode prog_9_method_13_code 32 = .ok (.iconst 1, 1) := by decide +kernel
theorem dP_hasAllPins_33 : decode prog_9_method_13_code 33 = .ok (.ireturn, 1) := by decide +kernel
theorem dP_isSource_0 : decode prog_9_method_14_code 0 = .ok (.iconst 0, 1) := by decide +kernel
theorem dP_isSource_1 : decode prog_9_method_14_code 1 = .ok (.istore_n 2, 1) := by decide +kernel
theorem dP_isSource_2 : decode prog_9_method_14_code 2 = .ok (.iload_n 2, 1) := by decide +kernel
theorem dP_isSource_3 : decode prog_9_method_14_code 3 = .ok (.bipush (27), 2) := by decide +kernel
theorem dP_isSource_5 : decode prog_9_method_14_code 5 = .ok (.if_icmp .ge (21), 3) := by decide +kernel
theorem dP_isSource_8 : decode prog_9_method_14_code 8 = .ok (.aload_n 0, 1) := by decide +kernel
theorem dP_isSource_9 : decode prog_9_method_14_code 9 = .ok (.getfield 18, 3) := by decide +kernel
theorem dP_isSource_12 : decode prog_9_method_14_code 12 = .ok (.iload_n 2, 1) := by decide +kernel
theorem dP_isSource_13 : decode prog_9_method_14_code 13 = .ok (.iaload, 1) := by decide +kernel
theorem dP_isSource_14 : decode prog_9_method_14_code 14 = .ok (.iload_n 1, 1) := by decide +kernel
theorem dP_isSource_15 : decode prog_9_method_14_code 15 = .ok (.if_icmp .ne (5), 3) := by decide +kernel
theorem dP_isSource_18 : decode prog_9_method_14_code 18 = .ok (.iconst 1, 1) := by decide +kernel
theorem dP_isSource_19 : decode prog_9_method_14_code 19 = .ok (.ireturn, 1) := by decide +kernel
theorem dP_isSource_20 : decode prog_9_method_14_code 20 = .ok (.iinc 2 (1), 3) := by decide +kernel
theorem dP_isSource_23 : decode prog_9_method_14_code 23 = .ok (.goto (-21), 3) := by decide +kernel
theorem dP_isSource_26 : decode prog_9_method_14_code 26 = .ok (.iconst 0, 1) := by decide +kernel
theorem dP_isSource_27 : decode prog_9_method_14_code 27 = .ok (.ireturn, 1) := by decide +kernel
end
section
/-! Rooms, calls with one answer, pictures of Plan and Bank. -/
abbrev mR (f l : Nat) : Room := { frames := f, cells := 0, slots := 0, locals := l }
abbrev mRT (f l : Nat) : Room := { frames := f, cells := 1, slots := 6, locals := l }
section MXD
variable {K : Nat → Addr → State → State → Prop} {T : List Cond} {cl : List vw_C} {J : mx_J} {R : Room} {k : Nat} {ls : List Value} {hp : List va_E} {Q : mx_O → List va_E → Prop}
theorem mx_V1 {J' : mx_J} {R' : Room} {idx n b ci : Nat} {fs : List Value} {r : vw_C} {st : List Value} {v : Option Value} {hp' : List va_E} (as rest : List Value) (hd : decode J.2.1 k = .ok (.invokevirtual idx, 3)) (hst : st = as.reverse ++ .ref b :: rest) (hG : mx_G T) (hok : mx_ok T J' n) (hV : Cond.instanceMethod J'.1 ∈ T ∧ Cond.selects J'.1.cls J'.1 J'.1 ∈ T) (hlk : mx_lk T J.1.cls idx J'.1) (hRm : mx_rm R' R J'.2.2.1) (hn : as.length = n) (hc1 : mx_cat1 (.ref b :: as) = true) (hle : (.ref b :: as).length ≤ J'.2.2.1) (hrest : (rest.map fun v => v.category).sum ≤ 8) (hb : hp[b]? = some (.inr (ci, fs))) (hci : cl[ci]? = some r) (hr : r.1 = J'.1.cls)
    (hW : ∀ Qc : mx_O → List va_E → Prop, Qc (.inl v) hp' → mx_W K T cl J' R' 0 (mx_pad (.ref b :: as) J'.2.2.1) [] hp Qc) (next : mx_W K T cl J R (k + 3) ls (v.toList ++ rest) hp' Q) : mx_W K T cl J R k ls st hp Q :=
  mx_V as rest hd hst hG hok hV hlk hRm hn hc1 hle hrest hb hci hr (hW (fun r h => r = .inl v ∧ h = hp') ⟨rfl, rfl⟩) (fun X h' q => by cases q.1) (fun v' h' q => by
    obtain ⟨e1, e2⟩ := q
    cases e1
    subst e2
    exact next)
theorem mx_S1 {J' : mx_J} {R' : Room} {idx n : Nat} {st : List Value} {v : Option Value} {hp' : List va_E} (as rest : List Value) (hd : decode J.2.1 k = .ok (.invokestatic idx, 3)) (hst : st = as.reverse ++ rest) (hG : mx_G T) (hok : mx_ok T J' n) (hV : Cond.static J'.1 ∈ T) (hlk : mx_lk T J.1.cls idx J'.1) (hRm : mx_rm R' R J'.2.2.1) (hn : as.length = n) (hc1 : mx_cat1 as = true) (hle : as.length ≤ J'.2.2.1) (hrest : (rest.map fun v => v.category).sum ≤ 8)
    (hW : ∀ Qc : mx_O → List va_E → Prop, Qc (.inl v) hp' → mx_W K T cl J' R' 0 (mx_pad as J'.2.2.1) [] hp Qc) (next : mx_W K T cl J R (k + 3) ls (v.toList ++ rest) hp' Q) : mx_W K T cl J R k ls st hp Q :=
  mx_S as rest hd hst hG hok hV hlk hRm hn hc1 hle hrest (hW (fun r h => r = .inl v ∧ h = hp') ⟨rfl, rfl⟩) (fun X h' q => by cases q.1) (fun v' h' q => by
    obtain ⟨e1, e2⟩ := q
    cases e1
    subst e2
    exact next)
end MXD
/-- a Plan at cell b: its count, its rows kind, cost, source at k1, k2, k3 -/
def pP (hp : List va_E) (b k1 k2 k3 : Nat) (cnt : Int32) (kd cs sr : Nat → Int32) : Prop := hp[b]? = some (.inr (1, [.int cnt, .ref k1, .ref k2, .ref k3])) ∧ hp[k1]? = some (.inl (0, 13, .inl kd)) ∧ hp[k2]? = some (.inl (0, 13, .inl cs)) ∧ hp[k3]? = some (.inl (0, 27, .inl sr))
/-- a Bank at cell b: its rows lengths, values at kl, kv -/
def pB (hp : List va_E) (b kl kv : Nat) (ln : Nat → Int32) (vl : Nat → Int64) : Prop := hp[b]? = some (.inr (2, [.ref kl, .ref kv])) ∧ hp[kl]? = some (.inl (0, 27, .inl ln)) ∧ hp[kv]? = some (.inl (1, 27, .inr (.inl vl)))
end
section
/-! Plan: its methods. -/
def qP_hasGate (cnt x : Int32) : Int32 := if x < 1 then 0 else if cnt < x then 0 else 1
def qP_isPort (x : Int32) : Int32 := if x < -3 then 0 else if -1 < x then 0 else 1
def qP_hasEnd (cnt x : Int32) : Int32 := if ¬ qP_hasGate cnt x = 0 then 1 else if qP_isPort x = 0 then 0 else 1
def qP_pinsOf (kd : Nat → Int32) (x : Int32) : Int32 := if 1 < kd x.toNatClampNeg then 2 else 1
def qP_firstPin (x : Int32) : Int32 := 2 * (x - 1)
def qP_placeOf (cnt : Int32) (kd : Nat → Int32) (x y : Int32) : Int32 := if 0 ≤ y then (if qP_hasGate cnt x = 0 then (if qP_isPort x = 0 then -1 else if ¬ y = 0 then -1 else 23 - x) else if qP_pinsOf kd x ≤ y then -1 else qP_firstPin x + y) else -1
def qP_gateBehind (sr : Nat → Int32) (x : Int32) : Int32 := if sr x.toNatClampNeg < 0 then 0 else sr x.toNatClampNeg
def qP_gateBefore (x : Int32) : Int32 := if 24 ≤ x then 0 else x / 2 + 1
theorem cP_hasGate {hp : List va_E} {b k1 k2 k3 : Nat} {cnt : Int32} {kd cs sr : Nat → Int32} {Q : mx_O → List va_E → Prop} (h : pP hp b k1 k2 k3 cnt kd cs sr) {x : Int32} (hQ : Q (.inl (some (.int (qP_hasGate cnt x)))) hp) : mx_W mx_K mT mCl jP_hasGate (mR 0 0) 0 [.ref b, .int x] [] hp Q := by
  refine mx_iload_n dP_hasGate_0 rfl ?_
  refine mx_iconst (1) dP_hasGate_1 (by decide) ?_
  refine mx_icmp_lt 17 dP_hasGate_2 rfl (fun h2 => ?_) (fun h2 => ?_)
  · refine mx_iconst (0) dP_hasGate_17 (by decide) ?_
    refine mx_iret dP_hasGate_18 rfl rfl ?_
    simpa [qP_hasGate, h2] using hQ
  · refine mx_iload_n dP_hasGate_5 rfl ?_
    refine mx_aload_n dP_hasGate_6 rfl ?_
    refine mx_get 1 0 dP_hasGate_7 fgP_21 h.1 rfl ?_
    refine mx_icmp_gt 17 dP_hasGate_10 rfl (fun h10 => ?_) (fun h10 => ?_)
    · refine mx_iconst (0) dP_hasGate_17 (by decide) ?_
      refine mx_iret dP_hasGate_18 rfl rfl ?_
      simpa [qP_hasGate, h2, h10] using hQ
    · refine mx_iconst (1) dP_hasGate_13 (by decide) ?_
      refine mx_goto 18 dP_hasGate_14 rfl ?_
      refine mx_iret dP_hasGate_18 rfl rfl ?_
      simpa [qP_hasGate, h2, h10] using hQ
theorem cP_isPort {hp : List va_E} {Q : mx_O → List va_E → Prop} {x : Int32} (hQ : Q (.inl (some (.int (qP_isPort x)))) hp) : mx_W mx_K mT mCl jP_isPort (mR 0 0) 0 [.int x] [] hp Q := by
  refine mx_iload_n dP_isPort_0 rfl ?_
  refine mx_bipush (-3) dP_isPort_1 (by decide) ?_
  refine mx_icmp_lt 15 dP_isPort_3 rfl (fun h3 => ?_) (fun h3 => ?_)
  · refine mx_iconst (0) dP_isPort_15 (by decide) ?_
    refine mx_iret dP_isPort_16 rfl rfl ?_
    simpa [qP_isPort, h3] using hQ
  · refine mx_iload_n dP_isPort_6 rfl ?_
    refine mx_iconst (-1) dP_isPort_7 (by decide) ?_
    refine mx_icmp_gt 15 dP_isPort_8 rfl (fun h8 => ?_) (fun h8 => ?_)
    · refine mx_iconst (0) dP_isPort_15 (by decide) ?_
      refine mx_iret dP_isPort_16 rfl rfl ?_
      simpa [qP_isPort, h3, h8] using hQ
    · refine mx_iconst (1) dP_isPort_11 (by decide) ?_
      refine mx_goto 16 dP_isPort_12 rfl ?_
      refine mx_iret dP_isPort_16 rfl rfl ?_
      simpa [qP_isPort, h3, h8] using hQ
theorem cP_pinsOf {hp : List va_E} {b k1 k2 k3 : Nat} {cnt : Int32} {kd cs sr : Nat → Int32} {Q : mx_O → List va_E → Prop} (h : pP hp b k1 k2 k3 cnt kd cs sr) {x : Int32} (hx : vp_in x 13) (hQ : Q (.inl (some (.int (qP_pinsOf kd x)))) hp) : mx_W mx_K mT mCl jP_pinsOf (mR 0 0) 0 [.ref b, .int x] [] hp Q := by
  refine mx_aload_n dP_pinsOf_0 rfl ?_
  refine mx_get 1 1 dP_pinsOf_1 fgP_9 h.1 rfl ?_
  refine mx_iload_n dP_pinsOf_4 rfl ?_
  refine mx_iald dP_pinsOf_5 h.2.1 hx ?_
  refine mx_iconst (1) dP_pinsOf_6 (by decide) ?_
  refine mx_icmp_gt 14 dP_pinsOf_7 rfl (fun h7 => ?_) (fun h7 => ?_)
  · refine mx_iconst (2) dP_pinsOf_14 (by decide) ?_
    refine mx_iret dP_pinsOf_15 rfl rfl ?_
    simpa [qP_pinsOf, h7] using hQ
  · refine mx_iconst (1) dP_pinsOf_10 (by decide) ?_
    refine mx_goto 15 dP_pinsOf_11 rfl ?_
    refine mx_iret dP_pinsOf_15 rfl rfl ?_
    simpa [qP_pinsOf, h7] using hQ
theorem cP_firstPin {hp : List va_E} {b : Nat} {Q : mx_O → List va_E → Prop} {x : Int32} (hQ : Q (.inl (some (.int (qP_firstPin x)))) hp) : mx_W mx_K mT mCl jP_firstPin (mR 0 0) 0 [.ref b, .int x] [] hp Q := by
  refine mx_iconst (2) dP_firstPin_0 (by decide) ?_
  refine mx_iload_n dP_firstPin_1 rfl ?_
  refine mx_iconst (1) dP_firstPin_2 (by decide) ?_
  refine mx_isub dP_firstPin_3 ?_
  refine mx_imul dP_firstPin_4 ?_
  refine mx_iret dP_firstPin_5 rfl rfl ?_
  exact hQ
theorem cP_hasEnd {hp : List va_E} {b k1 k2 k3 : Nat} {cnt : Int32} {kd cs sr : Nat → Int32} {Q : mx_O → List va_E → Prop} (h : pP hp b k1 k2 k3 cnt kd cs sr) {x : Int32} (hQ : Q (.inl (some (.int (qP_hasEnd cnt x)))) hp) : mx_W mx_K mT mCl jP_hasEnd (mR 1 21) 0 [.ref b, .int x] [] hp Q := by
  refine mx_aload_n dP_hasEnd_0 rfl ?_
  refine mx_iload_n dP_hasEnd_1 rfl ?_
  refine mx_V1 (R' := (mR 0 0)) [_] _ dP_hasEnd_2 rfl mT_G jP_hasGate_ok jP_hasGate_v lkP_25 ⟨rfl, rfl, Nat.le_of_ble_eq_true rfl, Nat.le_of_ble_eq_true rfl⟩ rfl rfl (Nat.le_of_ble_eq_true rfl) (Nat.le_of_ble_eq_true rfl) h.1 rfl rfl (fun Qc qc => cP_hasGate h qc) ?_
  refine mx_if_ne 15 dP_hasEnd_5 rfl (fun h5 => ?_) (fun h5 => ?_)
  · refine mx_iconst (1) dP_hasEnd_15 (by decide) ?_
    refine mx_goto 20 dP_hasEnd_16 rfl ?_
    refine mx_iret dP_hasEnd_20 rfl rfl ?_
    simpa [qP_hasEnd, h5] using hQ
  · refine mx_iload_n dP_hasEnd_8 rfl ?_
    refine mx_S1 (R' := (mR 0 0)) [_] _ dP_hasEnd_9 rfl mT_G jP_isPort_ok jP_isPort_v lkP_29 ⟨rfl, rfl, Nat.le_of_ble_eq_true rfl, Nat.le_of_ble_eq_true rfl⟩ rfl rfl (Nat.le_of_ble_eq_true rfl) (Nat.le_of_ble_eq_true rfl) (fun Qc qc => cP_isPort qc) ?_
    refine mx_if_eq 19 dP_hasEnd_12 rfl (fun h12 => ?_) (fun h12 => ?_)
    · refine mx_iconst (0) dP_hasEnd_19 (by decide) ?_
      refine mx_iret dP_hasEnd_20 rfl rfl ?_
      simpa [qP_hasEnd, h5, h12] using hQ
    · refine mx_iconst (1) dP_hasEnd_15 (by decide) ?_
      refine mx_goto 20 dP_hasEnd_16 rfl ?_
      refine mx_iret dP_hasEnd_20 rfl rfl ?_
      simpa [qP_hasEnd, h5, h12] using hQ
theorem cP_endOfPins {hp : List va_E} {b k1 k2 k3 : Nat} {cnt : Int32} {kd cs sr : Nat → Int32} {Q : mx_O → List va_E → Prop} (h : pP hp b k1 k2 k3 cnt kd cs sr) {x : Int32} (hx : vp_in x 13) (hQ : Q (.inl (some (.int (qP_firstPin x + qP_pinsOf kd x)))) hp) : mx_W mx_K mT mCl jP_endOfPins (mR 1 21) 0 [.ref b, .int x] [] hp Q := by
  refine mx_aload_n dP_endOfPins_0 rfl ?_
  refine mx_iload_n dP_endOfPins_1 rfl ?_
  refine mx_V1 (R' := (mR 0 0)) [_] _ dP_endOfPins_2 rfl mT_G jP_firstPin_ok jP_firstPin_v lkP_36 ⟨rfl, rfl, Nat.le_of_ble_eq_true rfl, Nat.le_of_ble_eq_true rfl⟩ rfl rfl (Nat.le_of_ble_eq_true rfl) (Nat.le_of_ble_eq_true rfl) h.1 rfl rfl (fun Qc qc => cP_firstPin qc) ?_
  refine mx_aload_n dP_endOfPins_5 rfl ?_
  refine mx_iload_n dP_endOfPins_6 rfl ?_
  refine mx_V1 (R' := (mR 0 0)) [_] _ dP_endOfPins_7 rfl mT_G jP_pinsOf_ok jP_pinsOf_v lkP_32 ⟨rfl, rfl, Nat.le_of_ble_eq_true rfl, Nat.le_of_ble_eq_true rfl⟩ rfl rfl (Nat.le_of_ble_eq_true rfl) (Nat.le_of_ble_eq_true rfl) h.1 rfl rfl (fun Qc qc => cP_pinsOf h hx qc) ?_
  refine mx_iadd dP_endOfPins_10 ?_
  refine mx_iret dP_endOfPins_11 rfl rfl ?_
  exact hQ
theorem cP_placeOf {hp : List va_E} {b k1 k2 k3 : Nat} {cnt : Int32} {kd cs sr : Nat → Int32} {Q : mx_O → List va_E → Prop} (h : pP hp b k1 k2 k3 cnt kd cs sr) {x y : Int32} (hx : qP_hasGate cnt x ≠ 0 → vp_in x 13) (hQ : Q (.inl (some (.int (qP_placeOf cnt kd x y)))) hp) : mx_W mx_K mT mCl jP_placeOf (mR 1 21) 0 [.ref b, .int x, .int y] [] hp Q := by
  refine mx_iload_n dP_placeOf_0 rfl ?_
  refine mx_if_ge 6 dP_placeOf_1 rfl (fun h1 => ?_) (fun h1 => ?_)
  · refine mx_aload_n dP_placeOf_6 rfl ?_
    refine mx_iload_n dP_placeOf_7 rfl ?_
    refine mx_V1 (R' := (mR 0 0)) [_] _ dP_placeOf_8 rfl mT_G jP_hasGate_ok jP_hasGate_v lkP_25 ⟨rfl, rfl, Nat.le_of_ble_eq_true rfl, Nat.le_of_ble_eq_true rfl⟩ rfl rfl (Nat.le_of_ble_eq_true rfl) (Nat.le_of_ble_eq_true rfl) h.1 rfl rfl (fun Qc qc => cP_hasGate h qc) ?_
    refine mx_if_eq 35 dP_placeOf_11 rfl (fun h11 => ?_) (fun h11 => ?_)
    · refine mx_iload_n dP_placeOf_35 rfl ?_
      refine mx_S1 (R' := (mR 0 0)) [_] _ dP_placeOf_36 rfl mT_G jP_isPort_ok jP_isPort_v lkP_29 ⟨rfl, rfl, Nat.le_of_ble_eq_true rfl, Nat.le_of_ble_eq_true rfl⟩ rfl rfl (Nat.le_of_ble_eq_true rfl) (Nat.le_of_ble_eq_true rfl) (fun Qc qc => cP_isPort qc) ?_
      refine mx_if_eq 53 dP_placeOf_39 rfl (fun h39 => ?_) (fun h39 => ?_)
      · refine mx_iconst (-1) dP_placeOf_53 (by decide) ?_
        refine mx_iret dP_placeOf_54 rfl rfl ?_
        simpa [qP_placeOf, h1, h11, h39] using hQ
      · refine mx_iload_n dP_placeOf_42 rfl ?_
        refine mx_if_ne 53 dP_placeOf_43 rfl (fun h43 => ?_) (fun h43 => ?_)
        · refine mx_iconst (-1) dP_placeOf_53 (by decide) ?_
          refine mx_iret dP_placeOf_54 rfl rfl ?_
          simpa [qP_placeOf, h1, h11, h39, h43] using hQ
        · refine mx_bipush (23) dP_placeOf_46 (by decide) ?_
          refine mx_iload_n dP_placeOf_48 rfl ?_
          refine mx_isub dP_placeOf_49 ?_
          refine mx_goto 54 dP_placeOf_50 rfl ?_
          refine mx_iret dP_placeOf_54 rfl rfl ?_
          simpa [qP_placeOf, h1, h11, h39, h43] using hQ
    · refine mx_iload_n dP_placeOf_14 rfl ?_
      refine mx_aload_n dP_placeOf_15 rfl ?_
      refine mx_iload_n dP_placeOf_16 rfl ?_
      refine mx_V1 (R' := (mR 0 0)) [_] _ dP_placeOf_17 rfl mT_G jP_pinsOf_ok jP_pinsOf_v lkP_32 ⟨rfl, rfl, Nat.le_of_ble_eq_true rfl, Nat.le_of_ble_eq_true rfl⟩ rfl rfl (Nat.le_of_ble_eq_true rfl) (Nat.le_of_ble_eq_true rfl) h.1 rfl rfl (fun Qc qc => cP_pinsOf h (hx h11) qc) ?_
      refine mx_icmp_ge 33 dP_placeOf_20 rfl (fun h20 => ?_) (fun h20 => ?_)
      · refine mx_iconst (-1) dP_placeOf_33 (by decide) ?_
        refine mx_iret dP_placeOf_34 rfl rfl ?_
        simpa [qP_placeOf, h1, h11, h20] using hQ
      · refine mx_aload_n dP_placeOf_23 rfl ?_
        refine mx_iload_n dP_placeOf_24 rfl ?_
        refine mx_V1 (R' := (mR 0 0)) [_] _ dP_placeOf_25 rfl mT_G jP_firstPin_ok jP_firstPin_v lkP_36 ⟨rfl, rfl, Nat.le_of_ble_eq_true rfl, Nat.le_of_ble_eq_true rfl⟩ rfl rfl (Nat.le_of_ble_eq_true rfl) (Nat.le_of_ble_eq_true rfl) h.1 rfl rfl (fun Qc qc => cP_firstPin qc) ?_
        refine mx_iload_n dP_placeOf_28 rfl ?_
        refine mx_iadd dP_placeOf_29 ?_
        refine mx_goto 34 dP_placeOf_30 rfl ?_
        refine mx_iret dP_placeOf_34 rfl rfl ?_
        simpa [qP_placeOf, h1, h11, h20] using hQ
  · refine mx_iconst (-1) dP_placeOf_4 (by decide) ?_
    refine mx_iret dP_placeOf_5 rfl rfl ?_
    simpa [qP_placeOf, h1] using hQ
theorem cP_gateBehind {hp : List va_E} {b k1 k2 k3 : Nat} {cnt : Int32} {kd cs sr : Nat → Int32} {Q : mx_O → List va_E → Prop} (h : pP hp b k1 k2 k3 cnt kd cs sr) {x : Int32} (hx : vp_in x 27) (hQ : Q (.inl (some (.int (qP_gateBehind sr x)))) hp) : mx_W mx_K mT mCl jP_gateBehind (mR 1 24) 0 [.ref b, .int x] [] hp Q := by
  refine mx_aload_n dP_gateBehind_0 rfl ?_
  refine mx_get 1 3 dP_gateBehind_1 fgP_18 h.1 rfl ?_
  refine mx_iload_n dP_gateBehind_4 rfl ?_
  refine mx_iald dP_gateBehind_5 h.2.2.2 hx ?_
  refine mx_iconst (0) dP_gateBehind_6 (by decide) ?_
  refine mx_max dP_gateBehind_7 (mT_1 (i := 234) rfl rfl) (mT_1 (i := 235) rfl rfl) (mT_1 (i := 17) rfl rfl) (mT_1 (i := 236) rfl rfl) (Nat.le_of_ble_eq_true rfl) (Nat.le_of_ble_eq_true rfl) ?_
  refine mx_iret dP_gateBehind_10 rfl rfl ?_
  exact hQ
theorem cP_gateBefore {hp : List va_E} {b : Nat} {Q : mx_O → List va_E → Prop} {x : Int32} (hQ : Q (.inl (some (.int (qP_gateBefore x)))) hp) : mx_W mx_K mT mCl jP_gateBefore (mR 0 0) 0 [.ref b, .int x] [] hp Q := by
  refine mx_iload_n dP_gateBefore_0 rfl ?_
  refine mx_bipush (24) dP_gateBefore_1 (by decide) ?_
  refine mx_icmp_ge 14 dP_gateBefore_3 rfl (fun h3 => ?_) (fun h3 => ?_)
  · refine mx_iconst (0) dP_gateBefore_14 (by decide) ?_
    refine mx_iret dP_gateBefore_15 rfl rfl ?_
    simpa [qP_gateBefore, h3] using hQ
  · refine mx_iload_n dP_gateBefore_6 rfl ?_
    refine mx_iconst (2) dP_gateBefore_7 (by decide) ?_
    refine mx_idiv dP_gateBefore_8 (by decide) ?_
    refine mx_iconst (1) dP_gateBefore_9 (by decide) ?_
    refine mx_iadd dP_gateBefore_10 ?_
    refine mx_goto 15 dP_gateBefore_11 rfl ?_
    refine mx_iret dP_gateBefore_15 rfl rfl ?_
    simpa [qP_gateBefore, h3] using hQ
end
section
/-! A switch of four; Bank; Logic. -/
theorem mx_sw4 {K : Nat → Addr → State → State → Prop} {T : List Cond} {cl : List vw_C} {J : mx_J} {R : Room} {k : Nat} {ls rest : List Value} {hp : List va_E} {Q : mx_O → List va_E → Prop} {x : Int32} {dflt o0 o1 o2 o3 : Int} {len : Nat} (t0 t1 t2 t3 td : Nat) (hd : decode J.2.1 k = .ok (.tableswitch dflt 0 3 #[o0, o1, o2, o3], len)) (h0 : (k : Int) + o0 = (t0 : Int)) (h1 : (k : Int) + o1 = (t1 : Int)) (h2 : (k : Int) + o2 = (t2 : Int)) (h3 : (k : Int) + o3 = (t3 : Int)) (h4 : (k : Int) + dflt = (td : Int))
    (k0 : x = 0 → mx_W K T cl J R t0 ls rest hp Q) (k1 : x = 1 → mx_W K T cl J R t1 ls rest hp Q) (k2 : x = 2 → mx_W K T cl J R t2 ls rest hp Q) (k3 : x = 3 → mx_W K T cl J R t3 ls rest hp Q) (kd : ¬ x = 0 → ¬ x = 1 → ¬ x = 2 → ¬ x = 3 → mx_W K T cl J R td ls rest hp Q) : mx_W K T cl J R k ls (.int x :: rest) hp Q := by
  by_cases e0 : x = 0
  · subst e0; exact mx_tableIn t0 hd (by decide) (by decide) rfl h0 (k0 rfl)
  by_cases e1 : x = 1
  · subst e1; exact mx_tableIn t1 hd (by decide) (by decide) rfl h1 (k1 rfl)
  by_cases e2 : x = 2
  · subst e2; exact mx_tableIn t2 hd (by decide) (by decide) rfl h2 (k2 rfl)
  by_cases e3 : x = 3
  · subst e3; exact mx_tableIn t3 hd (by decide) (by decide) rfl h3 (k3 rfl)
  have n0 : ¬ x.toInt = 0 := lv_neT e0 (by decide)
  have n1 : ¬ x.toInt = 1 := lv_neT e1 (by decide)
  have n2 : ¬ x.toInt = 2 := lv_neT e2 (by decide)
  have n3 : ¬ x.toInt = 3 := lv_neT e3 (by decide)
  exact mx_tableOut td hd (by omega) h4 (kd e0 e1 e2 e3)
theorem mx_inc (i : Nat) : nI i + Int32.ofInt 1 = nI (i + 1) := by rw [nI_succ]; rfl
theorem lp_down {G : Nat → Prop} {n : Nat} (hend : G n) (hs : ∀ i, i < n → G (i + 1) → G i) : ∀ i, i ≤ n → G i := by
  intro i hi
  obtain ⟨d, rfl⟩ : ∃ d, n = i + d := ⟨n - i, by omega⟩
  clear hi
  induction d generalizing i with
  | zero => exact hend
  | succ d ih =>
    refine hs i (by omega) (ih (i + 1) ?_ ?_)
    · rw [show i + 1 + d = i + (d + 1) by omega]; exact hend
    · intro j hj; exact hs j (by omega)
abbrev eL (f : Nat → Int32) : va_E := .inl (0, 27, .inl f)
abbrev eV (f : Nat → Int64) : va_E := .inl (1, 27, .inr (.inl f))
def bRd (v : Int64) (r : Int32) : Int32 := (v.toUInt64 >>> ((2 * r).toInt64.toUInt64 &&& Int64.toUInt64 63)).toInt64.toInt32 &&& 3
def bWr (v : Int64) (r x : Int32) : Int64 := (v &&& ((3 <<< ((2 * r).toInt64 &&& 63)) ^^^ (-1))) ||| (x.toInt64 <<< ((2 * r).toInt64 &&& 63))
def bSh (v : Int64) : Int64 := (v.toUInt64 >>> ((2 : Int32).toInt64.toUInt64 &&& Int64.toUInt64 63)).toInt64
def bPs (v : Int64) (x : Int32) : Int64 := (v <<< ((2 : Int32).toInt64 &&& 63)) ||| x.toInt64
theorem pB_ne {hp : List va_E} {b kl kv : Nat} {ln : Nat → Int32} {vl : Nat → Int64} (h : pB hp b kl kv ln vl) : kl ≠ b ∧ kv ≠ b ∧ kl ≠ kv := by
  obtain ⟨h1, h2, h3⟩ := h
  refine ⟨fun e => ?_, fun e => ?_, fun e => ?_⟩
  · rw [e, h1] at h2; cases h2
  · rw [e, h1] at h3; cases h3
  · rw [e, h3] at h2
    have := congrArg (fun z : Option va_E => match z with | some (.inl (t, _)) => t | _ => 9) h2
    simp at this
theorem pB_lt {hp : List va_E} {b kl kv : Nat} {ln : Nat → Int32} {vl : Nat → Int64} (h : pB hp b kl kv ln vl) : kl < hp.length ∧ kv < hp.length := ⟨(List.getElem?_eq_some_iff.mp h.2.1).1, (List.getElem?_eq_some_iff.mp h.2.2).1⟩
theorem pB_l {hp : List va_E} {b kl kv : Nat} {ln : Nat → Int32} {vl : Nat → Int64} (h : pB hp b kl kv ln vl) (ln' : Nat → Int32) : pB (hp.set kl (eL ln')) b kl kv ln' vl := by
  obtain ⟨n1, n2, n3⟩ := pB_ne h
  refine ⟨?_, ?_, ?_⟩
  · rw [List.getElem?_set_ne n1]; exact h.1
  · exact List.getElem?_set_self (pB_lt h).1
  · rw [List.getElem?_set_ne n3]; exact h.2.2
theorem pB_v {hp : List va_E} {b kl kv : Nat} {ln : Nat → Int32} {vl : Nat → Int64} (h : pB hp b kl kv ln vl) (vl' : Nat → Int64) : pB (hp.set kv (eV vl')) b kl kv ln vl' := by
  obtain ⟨n1, n2, n3⟩ := pB_ne h
  refine ⟨?_, ?_, ?_⟩
  · rw [List.getElem?_set_ne n2]; exact h.1
  · rw [List.getElem?_set_ne (Ne.symm n3)]; exact h.2.1
  · exact List.getElem?_set_self (pB_lt h).2
theorem cB_length {hp : List va_E} {b kl kv : Nat} {ln : Nat → Int32} {vl : Nat → Int64} {Q : mx_O → List va_E → Prop} (h : pB hp b kl kv ln vl) {w : Int32} (hw : vp_in w 27) (hQ : Q (.inl (some (.int (ln w.toNatClampNeg)))) (hp)) : mx_W mx_K mT mCl jB_length (mR 0 0) 0 [.ref b, .int w] [] hp Q := by
  refine mx_aload_n dB_length_0 rfl ?_
  refine mx_get 2 0 dB_length_1 fgB_9 h.1 rfl ?_
  refine mx_iload_n dB_length_4 rfl ?_
  refine mx_iald dB_length_5 h.2.1 hw ?_
  refine mx_iret dB_length_6 rfl rfl ?_
  exact hQ
theorem cB_read {hp : List va_E} {b kl kv : Nat} {ln : Nat → Int32} {vl : Nat → Int64} {Q : mx_O → List va_E → Prop} (h : pB hp b kl kv ln vl) {w r : Int32} (hw : vp_in w 27) (hQ : Q (.inl (some (.int (bRd (vl w.toNatClampNeg) r)))) (hp)) : mx_W mx_K mT mCl jB_read (mR 0 0) 0 [.ref b, .int w, .int r] [] hp Q := by
  refine mx_aload_n dB_read_0 rfl ?_
  refine mx_get 2 1 dB_read_1 fgB_15 h.1 rfl ?_
  refine mx_iload_n dB_read_4 rfl ?_
  refine mx_lald dB_read_5 h.2.2 hw ?_
  refine mx_iconst (2) dB_read_6 (by decide) ?_
  refine mx_iload_n dB_read_7 rfl ?_
  refine mx_imul dB_read_8 ?_
  refine mx_lushr dB_read_9 rfl ?_
  refine mx_l2i dB_read_10 rfl ?_
  refine mx_iconst (3) dB_read_11 (by decide) ?_
  refine mx_iand dB_read_12 ?_
  refine mx_iret dB_read_13 rfl rfl ?_
  exact hQ
theorem cB_write {hp : List va_E} {b kl kv : Nat} {ln : Nat → Int32} {vl : Nat → Int64} {Q : mx_O → List va_E → Prop} (h : pB hp b kl kv ln vl) {w r x : Int32} (hw : vp_in w 27) (hQ : Q (.inl none) (hp.set kv (eV (vp_updL vl w.toNatClampNeg (bWr (vl w.toNatClampNeg) r x))))) : mx_W mx_K mT mCl jB_write (mR 0 0) 0 [.ref b, .int w, .int r, .int x, .retAddr 0, .retAddr 0] [] hp Q := by
  refine mx_aload_n dB_write_0 rfl ?_
  refine mx_get 2 1 dB_write_1 fgB_15 h.1 rfl ?_
  refine mx_iload_n dB_write_4 rfl ?_
  refine mx_lald dB_write_5 h.2.2 hw ?_
  refine mx_ldc2 dB_write_6 (mT_2 (i := 158) rfl rfl) ?_
  refine mx_iconst (2) dB_write_9 (by decide) ?_
  refine mx_iload_n dB_write_10 rfl ?_
  refine mx_imul dB_write_11 ?_
  refine mx_lshl dB_write_12 rfl ?_
  refine mx_ldc2 dB_write_13 (mT_2 (i := 159) rfl rfl) ?_
  refine mx_lxor dB_write_16 ?_
  refine mx_land dB_write_17 ?_
  refine mx_lstore dB_write_18 (Nat.le_of_ble_eq_true rfl) rfl ?_
  refine mx_aload_n dB_write_20 rfl ?_
  refine mx_get 2 1 dB_write_21 fgB_15 h.1 rfl ?_
  refine mx_iload_n dB_write_24 rfl ?_
  refine mx_lload dB_write_25 rfl ?_
  refine mx_iload_n dB_write_27 rfl ?_
  refine mx_i2l dB_write_28 rfl ?_
  refine mx_iconst (2) dB_write_29 (by decide) ?_
  refine mx_iload_n dB_write_30 rfl ?_
  refine mx_imul dB_write_31 ?_
  refine mx_lshl dB_write_32 rfl ?_
  refine mx_lor dB_write_33 ?_
  refine mx_last dB_write_34 h.2.2 hw ?_
  refine mx_vret dB_write_35 rfl ?_
  exact hQ
theorem cB_takeAtSink {hp : List va_E} {b kl kv : Nat} {ln : Nat → Int32} {vl : Nat → Int64} {Q : mx_O → List va_E → Prop} (h : pB hp b kl kv ln vl) {w : Int32} (hw : vp_in w 27) (hQ : Q (.inl (some (.int (bRd (vl w.toNatClampNeg) 0)))) ((hp.set kv (eV (vp_updL vl w.toNatClampNeg (bSh (vl w.toNatClampNeg))))).set kl (eL (upd ln w.toNatClampNeg (ln w.toNatClampNeg - 1))))) : mx_W mx_K mT mCl jB_takeAtSink (mR 1 22) 0 [.ref b, .int w, .retAddr 0] [] hp Q := by
  have h2 := pB_v h (vp_updL vl w.toNatClampNeg (bSh (vl w.toNatClampNeg)))
  refine mx_aload_n dB_takeAtSink_0 rfl ?_
  refine mx_iload_n dB_takeAtSink_1 rfl ?_
  refine mx_iconst (0) dB_takeAtSink_2 (by decide) ?_
  refine mx_V1 (R' := (mR 0 0)) [_, _] _ dB_takeAtSink_3 rfl mT_G jB_read_ok jB_read_v lkB_27 ⟨rfl, rfl, Nat.le_of_ble_eq_true rfl, Nat.le_of_ble_eq_true rfl⟩ rfl rfl (Nat.le_of_ble_eq_true rfl) (Nat.le_of_ble_eq_true rfl) h.1 rfl rfl (fun Qc qc => cB_read h hw qc) ?_
  refine mx_istore_n dB_takeAtSink_6 (Nat.le_of_ble_eq_true rfl) rfl ?_
  refine mx_aload_n dB_takeAtSink_7 rfl ?_
  refine mx_get 2 1 dB_takeAtSink_8 fgB_15 h.1 rfl ?_
  refine mx_iload_n dB_takeAtSink_11 rfl ?_
  refine mx_dup2 dB_takeAtSink_12 rfl rfl ?_
  refine mx_lald dB_takeAtSink_13 h.2.2 hw ?_
  refine mx_iconst (2) dB_takeAtSink_14 (by decide) ?_
  refine mx_lushr dB_takeAtSink_15 rfl ?_
  refine mx_last dB_takeAtSink_16 h.2.2 hw ?_
  refine mx_aload_n dB_takeAtSink_17 rfl ?_
  refine mx_get 2 0 dB_takeAtSink_18 fgB_9 h2.1 rfl ?_
  refine mx_iload_n dB_takeAtSink_21 rfl ?_
  refine mx_dup2 dB_takeAtSink_22 rfl rfl ?_
  refine mx_iald dB_takeAtSink_23 h2.2.1 hw ?_
  refine mx_iconst (1) dB_takeAtSink_24 (by decide) ?_
  refine mx_isub dB_takeAtSink_25 ?_
  refine mx_iast dB_takeAtSink_26 h2.2.1 hw ?_
  refine mx_iload_n dB_takeAtSink_27 rfl ?_
  refine mx_iret dB_takeAtSink_28 rfl rfl ?_
  exact hQ
theorem cB_putAtSink {hp : List va_E} {b kl kv : Nat} {ln : Nat → Int32} {vl : Nat → Int64} {Q : mx_O → List va_E → Prop} (h : pB hp b kl kv ln vl) {w x : Int32} (hw : vp_in w 27) (hQ : Q (.inl none) ((hp.set kv (eV (vp_updL vl w.toNatClampNeg (bPs (vl w.toNatClampNeg) x)))).set kl (eL (upd ln w.toNatClampNeg (ln w.toNatClampNeg + 1))))) : mx_W mx_K mT mCl jB_putAtSink (mR 0 0) 0 [.ref b, .int w, .int x] [] hp Q := by
  have h2 := pB_v h (vp_updL vl w.toNatClampNeg (bPs (vl w.toNatClampNeg) x))
  refine mx_aload_n dB_putAtSink_0 rfl ?_
  refine mx_get 2 1 dB_putAtSink_1 fgB_15 h.1 rfl ?_
  refine mx_iload_n dB_putAtSink_4 rfl ?_
  refine mx_aload_n dB_putAtSink_5 rfl ?_
  refine mx_get 2 1 dB_putAtSink_6 fgB_15 h.1 rfl ?_
  refine mx_iload_n dB_putAtSink_9 rfl ?_
  refine mx_lald dB_putAtSink_10 h.2.2 hw ?_
  refine mx_iconst (2) dB_putAtSink_11 (by decide) ?_
  refine mx_lshl dB_putAtSink_12 rfl ?_
  refine mx_iload_n dB_putAtSink_13 rfl ?_
  refine mx_i2l dB_putAtSink_14 rfl ?_
  refine mx_lor dB_putAtSink_15 ?_
  refine mx_last dB_putAtSink_16 h.2.2 hw ?_
  refine mx_aload_n dB_putAtSink_17 rfl ?_
  refine mx_get 2 0 dB_putAtSink_18 fgB_9 h2.1 rfl ?_
  refine mx_iload_n dB_putAtSink_21 rfl ?_
  refine mx_dup2 dB_putAtSink_22 rfl rfl ?_
  refine mx_iald dB_putAtSink_23 h2.2.1 hw ?_
  refine mx_iconst (1) dB_putAtSink_24 (by decide) ?_
  refine mx_iadd dB_putAtSink_25 ?_
  refine mx_iast dB_putAtSink_26 h2.2.1 hw ?_
  refine mx_vret dB_putAtSink_27 rfl ?_
  exact hQ
theorem cB_takeAtSource {hp : List va_E} {b kl kv : Nat} {ln : Nat → Int32} {vl : Nat → Int64} {Q : mx_O → List va_E → Prop} (h : pB hp b kl kv ln vl) {w : Int32} (hw : vp_in w 27) (hQ : Q (.inl (some (.int (bRd (vl w.toNatClampNeg) (ln w.toNatClampNeg - 1))))) (hp.set kl (eL (upd ln w.toNatClampNeg (ln w.toNatClampNeg - 1))))) : mx_W mx_K mT mCl jB_takeAtSource (mR 1 22) 0 [.ref b, .int w] [] hp Q := by
  have h2 := pB_l h (upd ln w.toNatClampNeg (ln w.toNatClampNeg - 1))
  refine mx_aload_n dB_takeAtSource_0 rfl ?_
  refine mx_get 2 0 dB_takeAtSource_1 fgB_9 h.1 rfl ?_
  refine mx_iload_n dB_takeAtSource_4 rfl ?_
  refine mx_dup2 dB_takeAtSource_5 rfl rfl ?_
  refine mx_iald dB_takeAtSource_6 h.2.1 hw ?_
  refine mx_iconst (1) dB_takeAtSource_7 (by decide) ?_
  refine mx_isub dB_takeAtSource_8 ?_
  refine mx_iast dB_takeAtSource_9 h.2.1 hw ?_
  refine mx_aload_n dB_takeAtSource_10 rfl ?_
  refine mx_iload_n dB_takeAtSource_11 rfl ?_
  refine mx_aload_n dB_takeAtSource_12 rfl ?_
  refine mx_get 2 0 dB_takeAtSource_13 fgB_9 h2.1 rfl ?_
  refine mx_iload_n dB_takeAtSource_16 rfl ?_
  refine mx_iald dB_takeAtSource_17 h2.2.1 hw ?_
  refine mx_V1 (R' := (mR 0 0)) [_, _] _ dB_takeAtSource_18 rfl mT_G jB_read_ok jB_read_v lkB_27 ⟨rfl, rfl, Nat.le_of_ble_eq_true rfl, Nat.le_of_ble_eq_true rfl⟩ rfl rfl (Nat.le_of_ble_eq_true rfl) (Nat.le_of_ble_eq_true rfl) h2.1 rfl rfl (fun Qc qc => cB_read h2 hw qc) ?_
  refine mx_iret dB_takeAtSource_21 rfl rfl ?_
  rw [pk_us] ; exact hQ
theorem cB_putAtSource {hp : List va_E} {b kl kv : Nat} {ln : Nat → Int32} {vl : Nat → Int64} {Q : mx_O → List va_E → Prop} (h : pB hp b kl kv ln vl) {w x : Int32} (hw : vp_in w 27) (hQ : Q (.inl none) ((hp.set kv (eV (vp_updL vl w.toNatClampNeg (bWr (vl w.toNatClampNeg) (ln w.toNatClampNeg) x)))).set kl (eL (upd ln w.toNatClampNeg (ln w.toNatClampNeg + 1))))) : mx_W mx_K mT mCl jB_putAtSource (mR 1 25) 0 [.ref b, .int w, .int x] [] hp Q := by
  have h2 := pB_v h (vp_updL vl w.toNatClampNeg (bWr (vl w.toNatClampNeg) (ln w.toNatClampNeg) x))
  refine mx_aload_n dB_putAtSource_0 rfl ?_
  refine mx_iload_n dB_putAtSource_1 rfl ?_
  refine mx_aload_n dB_putAtSource_2 rfl ?_
  refine mx_get 2 0 dB_putAtSource_3 fgB_9 h.1 rfl ?_
  refine mx_iload_n dB_putAtSource_6 rfl ?_
  refine mx_iald dB_putAtSource_7 h.2.1 hw ?_
  refine mx_iload_n dB_putAtSource_8 rfl ?_
  refine mx_V1 (R' := (mR 0 0)) [_, _, _] _ dB_putAtSource_9 rfl mT_G jB_write_ok jB_write_v lkB_31 ⟨rfl, rfl, Nat.le_of_ble_eq_true rfl, Nat.le_of_ble_eq_true rfl⟩ rfl rfl (Nat.le_of_ble_eq_true rfl) (Nat.le_of_ble_eq_true rfl) h.1 rfl rfl (fun Qc qc => cB_write h hw qc) ?_
  refine mx_aload_n dB_putAtSource_12 rfl ?_
  refine mx_get 2 0 dB_putAtSource_13 fgB_9 h2.1 rfl ?_
  refine mx_iload_n dB_putAtSource_16 rfl ?_
  refine mx_dup2 dB_putAtSource_17 rfl rfl ?_
  refine mx_iald dB_putAtSource_18 h2.2.1 hw ?_
  refine mx_iconst (1) dB_putAtSource_19 (by decide) ?_
  refine mx_iadd dB_putAtSource_20 ?_
  refine mx_iast dB_putAtSource_21 h2.2.1 hw ?_
  refine mx_vret dB_putAtSource_22 rfl ?_
  exact hQ
def gOp (x : Int32) : Int32 := if ¬ x = 2 then 1 - x else 2
def gRu (r x y : Int32) : Int32 := if x = r then r else if ¬ y = r then (if x = 2 then 2 else if ¬ y = 2 then 1 - r else 2) else r
def gMade (k x y : Int32) : Int32 := if k = 0 then x else if k = 1 then gOp x else if k = 2 then gRu 0 x y else if k = 3 then gRu 1 x y else if x = 2 then 2 else if ¬ y = 2 then x ^^^ y else 2
def gNeed (k i v : Int32) : Int32 := if ¬ v = 2 then (if k = 0 then v else if k = 1 then gOp v else if k = 2 then (if ¬ v = 0 then v else if ¬ i = 1 then v else 2) else if k = 3 then (if ¬ v = 1 then v else if ¬ i = 1 then v else 2) else if ¬ i = 0 then 0 else v) else 2
theorem cG_opposite {hp : List va_E} {Q : mx_O → List va_E → Prop} {x : Int32} (hQ : Q (.inl (some (.int (gOp x)))) (hp)) : mx_W mx_K mT mCl jG_opposite (mR 0 0) 0 [.int x] [] hp Q := by
  refine mx_iload_n dG_opposite_0 rfl ?_
  refine mx_iconst (2) dG_opposite_1 (by decide) ?_
  refine mx_icmp_ne 9 dG_opposite_2 rfl (fun h2 => ?_) (fun h2 => ?_)
  · refine mx_iconst (1) dG_opposite_9 (by decide) ?_
    refine mx_iload_n dG_opposite_10 rfl ?_
    refine mx_isub dG_opposite_11 ?_
    refine mx_iret dG_opposite_12 rfl rfl ?_
    simpa [gOp, h2] using hQ
  · refine mx_iconst (2) dG_opposite_5 (by decide) ?_
    refine mx_goto 12 dG_opposite_6 rfl ?_
    refine mx_iret dG_opposite_12 rfl rfl ?_
    simpa [gOp, h2] using hQ
theorem cG_ruled {hp : List va_E} {Q : mx_O → List va_E → Prop} {r x y : Int32} (hQ : Q (.inl (some (.int (gRu r x y)))) (hp)) : mx_W mx_K mT mCl jG_ruled (mR 0 0) 0 [.int r, .int x, .int y] [] hp Q := by
  refine mx_iload_n dG_ruled_0 rfl ?_
  refine mx_iload_n dG_ruled_1 rfl ?_
  refine mx_icmp_eq 10 dG_ruled_2 rfl (fun h2 => ?_) (fun h2 => ?_)
  · refine mx_iload_n dG_ruled_10 rfl ?_
    refine mx_iret dG_ruled_11 rfl rfl ?_
    first | (simpa [gRu, h2] using hQ; done) | (unfold gRu at hQ; simp_all)
  · refine mx_iload_n dG_ruled_5 rfl ?_
    refine mx_iload_n dG_ruled_6 rfl ?_
    refine mx_icmp_ne 12 dG_ruled_7 rfl (fun h7 => ?_) (fun h7 => ?_)
    · refine mx_iload_n dG_ruled_12 rfl ?_
      refine mx_iconst (2) dG_ruled_13 (by decide) ?_
      refine mx_icmp_eq 22 dG_ruled_14 rfl (fun h14 => ?_) (fun h14 => ?_)
      · refine mx_iconst (2) dG_ruled_22 (by decide) ?_
        refine mx_goto 29 dG_ruled_23 rfl ?_
        refine mx_iret dG_ruled_29 rfl rfl ?_
        first | (simpa [gRu, h2, h7, h14] using hQ; done) | (unfold gRu at hQ; simp_all)
      · refine mx_iload_n dG_ruled_17 rfl ?_
        refine mx_iconst (2) dG_ruled_18 (by decide) ?_
        refine mx_icmp_ne 26 dG_ruled_19 rfl (fun h19 => ?_) (fun h19 => ?_)
        · refine mx_iconst (1) dG_ruled_26 (by decide) ?_
          refine mx_iload_n dG_ruled_27 rfl ?_
          refine mx_isub dG_ruled_28 ?_
          refine mx_iret dG_ruled_29 rfl rfl ?_
          first | (simpa [gRu, h2, h7, h14, h19] using hQ; done) | (unfold gRu at hQ; simp_all)
        · refine mx_iconst (2) dG_ruled_22 (by decide) ?_
          refine mx_goto 29 dG_ruled_23 rfl ?_
          refine mx_iret dG_ruled_29 rfl rfl ?_
          first | (simpa [gRu, h2, h7, h14, h19] using hQ; done) | (unfold gRu at hQ; simp_all)
    · refine mx_iload_n dG_ruled_10 rfl ?_
      refine mx_iret dG_ruled_11 rfl rfl ?_
      first | (simpa [gRu, h2, h7] using hQ; done) | (unfold gRu at hQ; simp_all)
theorem cG_made {hp : List va_E} {Q : mx_O → List va_E → Prop} {k x y : Int32} (hQ : Q (.inl (some (.int (gMade k x y)))) (hp)) : mx_W mx_K mT mCl jG_made (mR 1 22) 0 [.int k, .int x, .int y] [] hp Q := by
  refine mx_iload_n dG_made_0 rfl ?_
  refine mx_sw4 32 34 39 46 53 dG_made_1 rfl rfl rfl rfl rfl (fun e0 => ?_) (fun e0 => ?_) (fun e0 => ?_) (fun e0 => ?_) (fun e0 e1 e2 e3 => ?_)
  · refine mx_iload_n dG_made_32 rfl ?_
    refine mx_iret dG_made_33 rfl rfl ?_
    simpa [gMade, e0] using hQ
  · refine mx_iload_n dG_made_34 rfl ?_
    refine mx_S1 (R' := (mR 0 0)) [_] _ dG_made_35 rfl mT_G jG_opposite_ok jG_opposite_v lkG_9 ⟨rfl, rfl, Nat.le_of_ble_eq_true rfl, Nat.le_of_ble_eq_true rfl⟩ rfl rfl (Nat.le_of_ble_eq_true rfl) (Nat.le_of_ble_eq_true rfl) (fun Qc qc => cG_opposite qc) ?_
    refine mx_iret dG_made_38 rfl rfl ?_
    simpa [gMade, e0] using hQ
  · refine mx_iconst (0) dG_made_39 (by decide) ?_
    refine mx_iload_n dG_made_40 rfl ?_
    refine mx_iload_n dG_made_41 rfl ?_
    refine mx_S1 (R' := (mR 0 0)) [_, _, _] _ dG_made_42 rfl mT_G jG_ruled_ok jG_ruled_v lkG_15 ⟨rfl, rfl, Nat.le_of_ble_eq_true rfl, Nat.le_of_ble_eq_true rfl⟩ rfl rfl (Nat.le_of_ble_eq_true rfl) (Nat.le_of_ble_eq_true rfl) (fun Qc qc => cG_ruled qc) ?_
    refine mx_iret dG_made_45 rfl rfl ?_
    simpa [gMade, e0] using hQ
  · refine mx_iconst (1) dG_made_46 (by decide) ?_
    refine mx_iload_n dG_made_47 rfl ?_
    refine mx_iload_n dG_made_48 rfl ?_
    refine mx_S1 (R' := (mR 0 0)) [_, _, _] _ dG_made_49 rfl mT_G jG_ruled_ok jG_ruled_v lkG_15 ⟨rfl, rfl, Nat.le_of_ble_eq_true rfl, Nat.le_of_ble_eq_true rfl⟩ rfl rfl (Nat.le_of_ble_eq_true rfl) (Nat.le_of_ble_eq_true rfl) (fun Qc qc => cG_ruled qc) ?_
    refine mx_iret dG_made_52 rfl rfl ?_
    simpa [gMade, e0] using hQ
  · refine mx_iload_n dG_made_53 rfl ?_
    refine mx_iconst (2) dG_made_54 (by decide) ?_
    refine mx_icmp_eq 63 dG_made_55 rfl (fun h55 => ?_) (fun h55 => ?_)
    · refine mx_iconst (2) dG_made_63 (by decide) ?_
      refine mx_goto 70 dG_made_64 rfl ?_
      refine mx_iret dG_made_70 rfl rfl ?_
      simpa [gMade, e0, e1, e2, e3, h55] using hQ
    · refine mx_iload_n dG_made_58 rfl ?_
      refine mx_iconst (2) dG_made_59 (by decide) ?_
      refine mx_icmp_ne 67 dG_made_60 rfl (fun h60 => ?_) (fun h60 => ?_)
      · refine mx_iload_n dG_made_67 rfl ?_
        refine mx_iload_n dG_made_68 rfl ?_
        refine mx_ixor dG_made_69 ?_
        refine mx_iret dG_made_70 rfl rfl ?_
        simpa [gMade, e0, e1, e2, e3, h55, h60] using hQ
      · refine mx_iconst (2) dG_made_63 (by decide) ?_
        refine mx_goto 70 dG_made_64 rfl ?_
        refine mx_iret dG_made_70 rfl rfl ?_
        simpa [gMade, e0, e1, e2, e3, h55, h60] using hQ
theorem cG_needed {hp : List va_E} {Q : mx_O → List va_E → Prop} {k i v : Int32} (hQ : Q (.inl (some (.int (gNeed k i v)))) (hp)) : mx_W mx_K mT mCl jG_needed (mR 1 20) 0 [.int k, .int i, .int v] [] hp Q := by
  refine mx_iload_n dG_needed_0 rfl ?_
  refine mx_iconst (2) dG_needed_1 (by decide) ?_
  refine mx_icmp_ne 7 dG_needed_2 rfl (fun h2 => ?_) (fun h2 => ?_)
  · refine mx_iload_n dG_needed_7 rfl ?_
    refine mx_sw4 40 42 47 62 78 dG_needed_8 rfl rfl rfl rfl rfl (fun e0 => ?_) (fun e0 => ?_) (fun e0 => ?_) (fun e0 => ?_) (fun e0 e1 e2 e3 => ?_)
    · refine mx_iload_n dG_needed_40 rfl ?_
      refine mx_iret dG_needed_41 rfl rfl ?_
      simpa [gNeed, h2, e0] using hQ
    · refine mx_iload_n dG_needed_42 rfl ?_
      refine mx_S1 (R' := (mR 0 0)) [_] _ dG_needed_43 rfl mT_G jG_opposite_ok jG_opposite_v lkG_9 ⟨rfl, rfl, Nat.le_of_ble_eq_true rfl, Nat.le_of_ble_eq_true rfl⟩ rfl rfl (Nat.le_of_ble_eq_true rfl) (Nat.le_of_ble_eq_true rfl) (fun Qc qc => cG_opposite qc) ?_
      refine mx_iret dG_needed_46 rfl rfl ?_
      simpa [gNeed, h2, e0] using hQ
    · refine mx_iload_n dG_needed_47 rfl ?_
      refine mx_if_ne 60 dG_needed_48 rfl (fun h48 => ?_) (fun h48 => ?_)
      · refine mx_iload_n dG_needed_60 rfl ?_
        refine mx_iret dG_needed_61 rfl rfl ?_
        simpa [gNeed, h2, e0, h48] using hQ
      · refine mx_iload_n dG_needed_51 rfl ?_
        refine mx_iconst (1) dG_needed_52 (by decide) ?_
        refine mx_icmp_ne 60 dG_needed_53 rfl (fun h53 => ?_) (fun h53 => ?_)
        · refine mx_iload_n dG_needed_60 rfl ?_
          refine mx_iret dG_needed_61 rfl rfl ?_
          simpa [gNeed, h2, e0, h48, h53] using hQ
        · refine mx_iconst (2) dG_needed_56 (by decide) ?_
          refine mx_goto 61 dG_needed_57 rfl ?_
          refine mx_iret dG_needed_61 rfl rfl ?_
          simpa [gNeed, h2, e0, h48, h53] using hQ
    · refine mx_iload_n dG_needed_62 rfl ?_
      refine mx_iconst (1) dG_needed_63 (by decide) ?_
      refine mx_icmp_ne 76 dG_needed_64 rfl (fun h64 => ?_) (fun h64 => ?_)
      · refine mx_iload_n dG_needed_76 rfl ?_
        refine mx_iret dG_needed_77 rfl rfl ?_
        simpa [gNeed, h2, e0, h64] using hQ
      · refine mx_iload_n dG_needed_67 rfl ?_
        refine mx_iconst (1) dG_needed_68 (by decide) ?_
        refine mx_icmp_ne 76 dG_needed_69 rfl (fun h69 => ?_) (fun h69 => ?_)
        · refine mx_iload_n dG_needed_76 rfl ?_
          refine mx_iret dG_needed_77 rfl rfl ?_
          simpa [gNeed, h2, e0, h64, h69] using hQ
        · refine mx_iconst (2) dG_needed_72 (by decide) ?_
          refine mx_goto 77 dG_needed_73 rfl ?_
          refine mx_iret dG_needed_77 rfl rfl ?_
          simpa [gNeed, h2, e0, h64, h69] using hQ
    · refine mx_iload_n dG_needed_78 rfl ?_
      refine mx_if_ne 86 dG_needed_79 rfl (fun h79 => ?_) (fun h79 => ?_)
      · refine mx_iconst (0) dG_needed_86 (by decide) ?_
        refine mx_iret dG_needed_87 rfl rfl ?_
        simpa [gNeed, h2, e0, e1, e2, e3, h79] using hQ
      · refine mx_iload_n dG_needed_82 rfl ?_
        refine mx_goto 87 dG_needed_83 rfl ?_
        refine mx_iret dG_needed_87 rfl rfl ?_
        simpa [gNeed, h2, e0, e1, e2, e3, h79] using hQ
  · refine mx_iconst (2) dG_needed_5 (by decide) ?_
    refine mx_iret dG_needed_6 rfl rfl ?_
    simpa [gNeed, h2] using hQ
end
section
/-! Contents beyond an array's length; Bank.copy, Bank.fill; Plan with loops; Clock.begin. -/
section MXE
variable {K : Nat → Addr → State → State → Prop} {T : List Cond} {cl : List vw_C} {J : mx_J} {R : Room} {k : Nat} {ls st : List Value} {hp : List va_E} {Q : mx_O → List va_E → Prop}
theorem mx_ext {b t : Nat} {u v : vp_A} (hb : hp[b]? = some (.inl (t, u))) (hfg : ∀ (q : Nat → Nat) (cA : ClassId), vp_cell cA (mx_a q u) = vp_cell cA (mx_a q v)) (kk : mx_W K T cl J R k ls st (hp.set b (.inl (t, v))) Q) : mx_W K T cl J R k ls st hp Q := by
  intro l p e s m args below meth c D dT q A H locs lsA hC hl hP hD hS
  have e1 := mx_w_set q dT hp b (.inl (t, v))
  have h0 := mx_w_get (q := q) (dT := dT) hb
  have hat : H[q b]? = some (vp_cell (dT t) (mx_a q u)) := hP b _ h0
  refine kk l p e s m args below meth c D dT q A H locs lsA hC hl ?_ ?_ hS
  · rw [← e1]
    refine hP.set hD h0 ?_ (fun _ _ => rfl)
    show H[q b]? = some (vp_cell (dT t) (mx_a q v))
    rw [← hfg q (dT t)]
    exact hat
  · rw [← e1]
    exact hD.set h0
end MXE
theorem mx_arr {cA : ClassId} {n : Nat} {f g : Nat → Value} (h : ∀ j, j < n → f j = g j) : arrV cA n f = arrV cA n g := by
  unfold arrV
  have : (fun j : Fin n => f j.val) = (fun j : Fin n => g j.val) := funext fun j => h j.val j.isLt
  rw [this]
theorem mx_fi {n : Nat} {f g : Nat → Int32} (h : ∀ j, j < n → f j = g j) : ∀ (q : Nat → Nat) (cA : ClassId), vp_cell cA (mx_a q (n, .inl f)) = vp_cell cA (mx_a q (n, .inl g)) := fun q cA => by
  show arrV cA n (fun j => .int (f j)) = arrV cA n (fun j => .int (g j))
  exact mx_arr (fun j hj => by rw [h j hj])
theorem mx_fl64 {n : Nat} {f g : Nat → Int64} (h : ∀ j, j < n → f j = g j) : ∀ (q : Nat → Nat) (cA : ClassId), vp_cell cA (mx_a q (n, .inr (.inl f))) = vp_cell cA (mx_a q (n, .inr (.inl g))) := fun q cA => by
  show arrV cA n (fun j => .long (f j)) = arrV cA n (fun j => .long (g j))
  exact mx_arr (fun j hj => by rw [h j hj])
theorem upd_upd (f : Nat → Int32) (k : Nat) (a b : Int32) : upd (upd f k a) k b = upd f k b := by
  funext j; unfold upd; by_cases h : j = k <;> simp [h]
theorem updL_updL (f : Nat → Int64) (k : Nat) (a b : Int64) : vp_updL (vp_updL f k a) k b = vp_updL f k b := by
  funext j; unfold vp_updL; by_cases h : j = k <;> simp [h]
theorem updL_own (f : Nat → Int64) (k : Nat) : vp_updL f k (f k) = f := by
  funext j; unfold vp_updL; by_cases h : j = k <;> simp [h]
theorem set_own {hp : List va_E} {k : Nat} {x : va_E} (h : hp[k]? = some x) : hp.set k x = hp := by
  apply List.ext_getElem?
  intro i
  by_cases e : k = i
  · subst e
    rw [List.getElem?_set_self (List.getElem?_eq_some_iff.mp h).1, h]
  · rw [List.getElem?_set_ne e]
theorem set4 {hp : List va_E} {a b : Nat} (h : a ≠ b) (x y z w : va_E) : (((hp.set a x).set b y).set b z).set a w = (hp.set a w).set b z := by
  rw [List.set_set, List.set_comm _ _ (Ne.symm h), List.set_set]
def bFill (v : Int64) : Nat → Int64
  | 0 => v
  | n + 1 => bWr (bFill v n) (nI n) 2
theorem cB_copy {hp : List va_E} {b kl kv : Nat} {ln : Nat → Int32} {vl : Nat → Int64} {Q : mx_O → List va_E → Prop} (h : pB hp b kl kv ln vl) {b2 kl2 kv2 : Nat} {ln2 : Nat → Int32} {vl2 : Nat → Int64} (h2 : pB hp b2 kl2 kv2 ln2 vl2) (n1 : kl2 ≠ kl) (n2 : kv2 ≠ kv) (hQ : Q (.inl none) ((hp.set kl (eL ln2)).set kv (eV vl2))) : mx_W mx_K mT mCl jB_copy (mR 1 60) 0 [.ref b, .ref b2] [] hp Q := by
  have g1 := pB_l h (va_cpy ln2 ln 0 0 27)
  have g2 : hp[kl2]? = some (eL ln2) := h2.2.1
  obtain ⟨x1, x2, x3⟩ := pB_ne h
  obtain ⟨y1, y2, y3⟩ := pB_ne h2
  have z1 : kl ≠ b2 := fun e => by have := h.2.1; rw [e, h2.1] at this; cases this
  have z2 : kl ≠ kv2 := fun e => by
    have h9 := h.2.1
    rw [e, h2.2.2] at h9
    have := congrArg (fun z : Option va_E => match z with | some (.inl (t, _)) => t | _ => 9) h9
    simp at this
  have g3 : (hp.set kl (eL (va_cpy ln2 ln 0 0 27)))[b2]? = some (.inr (2, [.ref kl2, .ref kv2])) := by rw [List.getElem?_set_ne z1]; exact h2.1
  have g4 : (hp.set kl (eL (va_cpy ln2 ln 0 0 27)))[kv2]? = some (eV vl2) := by rw [List.getElem?_set_ne z2]; exact h2.2.2
  have g5 := pB_v g1 (va_cpy vl2 vl 0 0 27)
  refine mx_aload_n dB_copy_0 rfl ?_
  refine mx_get 2 0 dB_copy_1 fgB_9 h2.1 rfl ?_
  refine mx_iconst (0) dB_copy_4 (by decide) ?_
  refine mx_aload_n dB_copy_5 rfl ?_
  refine mx_get 2 0 dB_copy_6 fgB_9 h.1 rfl ?_
  refine mx_iconst (0) dB_copy_9 (by decide) ?_
  refine mx_bipush (27) dB_copy_10 (by decide) ?_
  refine mx_copyi dB_copy_12 (mT_2 (i := 13) rfl rfl) (mT_2 (i := 15) rfl rfl) (mT_2 (i := 14) rfl rfl) (mT_1 (i := 15) rfl rfl) h2.2.1 h.2.1 (by decide) (by decide) (by decide) (by decide) (by decide) (Nat.le_of_ble_eq_true rfl) (Nat.le_of_ble_eq_true rfl) ?_
  refine mx_aload_n dB_copy_15 rfl ?_
  refine mx_get 2 1 dB_copy_16 fgB_15 g3 rfl ?_
  refine mx_iconst (0) dB_copy_19 (by decide) ?_
  refine mx_aload_n dB_copy_20 rfl ?_
  refine mx_get 2 1 dB_copy_21 fgB_15 g1.1 rfl ?_
  refine mx_iconst (0) dB_copy_24 (by decide) ?_
  refine mx_bipush (27) dB_copy_25 (by decide) ?_
  refine mx_copyl dB_copy_27 (mT_2 (i := 13) rfl rfl) (mT_2 (i := 15) rfl rfl) (mT_2 (i := 14) rfl rfl) (mT_1 (i := 15) rfl rfl) g4 g1.2.2 (by decide) (by decide) (by decide) (by decide) (by decide) (Nat.le_of_ble_eq_true rfl) (Nat.le_of_ble_eq_true rfl) ?_
  refine mx_ext (v := (27, .inl ln2)) g5.2.1 (mx_fi (fun j hj => by rw [pk_cpy_in (Nat.zero_le _) (by omega)]; congr 1; omega)) ?_
  refine mx_ext (v := (27, .inr (.inl vl2))) (pB_l g5 ln2).2.2 (mx_fl64 (fun j hj => by rw [pk_cpy_in (Nat.zero_le _) (by omega)]; congr 1; omega)) ?_
  refine mx_vret dB_copy_30 rfl ?_
  rw [List.set_comm _ _ (Ne.symm x3), List.set_set, List.set_set]
  exact hQ
theorem cB_fill {hp : List va_E} {b kl kv : Nat} {ln : Nat → Int32} {vl : Nat → Int64} {Q : mx_O → List va_E → Prop} (h : pB hp b kl kv ln vl) {w : Int32} {r : Nat} (hw : vp_in w 27) (hr : r < 100) (hQ : Q (.inl none) ((hp.set kl (eL (upd ln w.toNatClampNeg (nI r)))).set kv (eV (vp_updL vl w.toNatClampNeg (bFill (vl w.toNatClampNeg) r))))) : mx_W mx_K mT mCl jB_fill (mR 2 47) 0 [.ref b, .int w, .int (nI r), .retAddr 0] [] hp Q := by
  have hloop : ∀ i, i ≤ r → mx_W mx_K mT mCl jB_fill (mR 2 47) 9 [.ref b, .int w, .int (nI r), .int (nI i)] [] ((hp.set kl (eL (upd ln w.toNatClampNeg (nI i)))).set kv (eV (vp_updL vl w.toNatClampNeg (bFill (vl w.toNatClampNeg) i)))) Q := by
    refine lp_down ?_ ?_
    · refine mx_iload_n dB_fill_9 rfl ?_
      refine mx_iload_n dB_fill_10 rfl ?_
      refine mx_icmp_ge 26 dB_fill_11 rfl (fun h11 => ?_) (fun h11 => ?_)
      rotate_left
      · exact absurd (nI_le (Nat.le_refl r) (by omega)) h11
      refine mx_vret dB_fill_26 rfl ?_
      exact hQ
    · intro i hi ih
      have hi2 := pB_v (pB_l h (upd ln w.toNatClampNeg (nI i))) (vp_updL vl w.toNatClampNeg (bFill (vl w.toNatClampNeg) i))
      refine mx_iload_n dB_fill_9 rfl ?_
      refine mx_iload_n dB_fill_10 rfl ?_
      refine mx_icmp_ge 26 dB_fill_11 rfl (fun h11 => ?_) (fun h11 => ?_)
      · exact absurd h11 (nI_ge hi (by omega))
      refine mx_aload_n dB_fill_14 rfl ?_
      refine mx_iload_n dB_fill_15 rfl ?_
      refine mx_iconst (2) dB_fill_16 (by decide) ?_
      refine mx_V1 (R' := (mR 1 25)) [_, _] _ dB_fill_17 rfl mT_G jB_putAtSource_ok jB_putAtSource_v lkB_23 ⟨rfl, rfl, Nat.le_of_ble_eq_true rfl, Nat.le_of_ble_eq_true rfl⟩ rfl rfl (Nat.le_of_ble_eq_true rfl) (Nat.le_of_ble_eq_true rfl) hi2.1 rfl rfl (fun Qc qc => cB_putAtSource hi2 hw qc) ?_
      refine mx_iinc dB_fill_20 rfl (mx_inc i) (Nat.le_of_ble_eq_true rfl) rfl ?_
      refine mx_goto 9 dB_fill_23 rfl ?_
      refine mx_eqs rfl rfl rfl ?_ ih
      rw [set4 (pB_ne h).2.2, updL_updL, upd_upd, pk_us, pk_uLs, nI_1]
      rfl
  have h0 := pB_l h (upd ln w.toNatClampNeg (nI 0))
  refine mx_aload_n dB_fill_0 rfl ?_
  refine mx_get 2 0 dB_fill_1 fgB_9 h.1 rfl ?_
  refine mx_iload_n dB_fill_4 rfl ?_
  refine mx_iconst (0) dB_fill_5 (by decide) ?_
  refine mx_iast dB_fill_6 h.2.1 hw ?_
  refine mx_iconst (0) dB_fill_7 (by decide) ?_
  refine mx_istore_n dB_fill_8 (Nat.le_of_ble_eq_true rfl) rfl ?_
  refine mx_eqs rfl rfl rfl ?_ (hloop 0 (Nat.zero_le _))
  show hp.set kl (eL (upd ln w.toNatClampNeg (nI 0))) = _
  rw [show bFill (vl w.toNatClampNeg) 0 = vl w.toNatClampNeg from rfl, updL_own, set_own h0.2.2]
theorem cC_begin {hp : List va_E} {b bs kv0 kl kv b2 kl2 kv2 : Nat} {ln ln2 : Nat → Int32} {vl vl2 : Nat → Int64} {Q : mx_O → List va_E → Prop} (hb : hp[b]? = some (.inr (7, [.ref bs, .ref kv0]))) (h : pB hp bs kl kv ln vl) (h2 : pB hp b2 kl2 kv2 ln2 vl2) (n1 : kl2 ≠ kl) (n2 : kv2 ≠ kv) (hQ : Q (.inl none) ((hp.set kl (eL ln2)).set kv (eV vl2))) : mx_W mx_K mT mCl jC_begin (mR 2 81) 0 [.ref b, .ref b2] [] hp Q := by
  refine mx_aload_n dC_begin_0 rfl ?_
  refine mx_get 7 0 dC_begin_1 fgC_12 hb rfl ?_
  refine mx_aload_n dC_begin_4 rfl ?_
  refine mx_V1 (R' := (mR 1 60)) [_] _ dC_begin_5 rfl mT_G jB_copy_ok jB_copy_v lkC_22 ⟨rfl, rfl, Nat.le_of_ble_eq_true rfl, Nat.le_of_ble_eq_true rfl⟩ rfl rfl (Nat.le_of_ble_eq_true rfl) (Nat.le_of_ble_eq_true rfl) h.1 rfl rfl (fun Qc qc => cB_copy h h2 n1 n2 qc) ?_
  refine mx_vret dC_begin_8 rfl ?_
  exact hQ
def exB (n : Nat) (p : Nat → Bool) : Bool := (List.range n).any p
def allB (n : Nat) (p : Nat → Bool) : Bool := (List.range n).all p
theorem exB_iff {n : Nat} {p : Nat → Bool} : exB n p = true ↔ ∃ j, j < n ∧ p j = true := by simp [exB]
theorem allB_iff {n : Nat} {p : Nat → Bool} : allB n p = true ↔ ∀ j, j < n → p j = true := by simp [allB]
theorem exB_no {n : Nat} {p : Nat → Bool} (h : ∀ j, j < n → ¬ p j = true) : exB n p = false := by
  cases e : exB n p with
  | false => rfl
  | true => obtain ⟨j, h1, h2⟩ := exB_iff.mp e; exact absurd h2 (h j h1)
theorem allB_no {n j : Nat} {p : Nat → Bool} (hj : j < n) (h : ¬ p j = true) : allB n p = false := by
  cases e : allB n p with
  | false => rfl
  | true => exact absurd (allB_iff.mp e j hj) h
def i01 (b : Bool) : Int32 := if b then 1 else 0
theorem i01_t {b : Bool} (h : b = true) : i01 b = 1 := by rw [h]; rfl
theorem i01_f {b : Bool} (h : b = false) : i01 b = 0 := by rw [h]; rfl
def eK (f : Nat → Int32) : va_E := .inl (0, 13, .inl f)
theorem cP_isSource {hp : List va_E} {b k1 k2 k3 : Nat} {cnt : Int32} {kd cs sr : Nat → Int32} {Q : mx_O → List va_E → Prop} (h : pP hp b k1 k2 k3 (cnt) kd cs sr) {x : Int32} (hQ : Q (.inl (some (.int (i01 (exB 27 (fun j => decide (sr j = x))))))) (hp)) : mx_W mx_K mT mCl jP_isSource (mR 0 0) 0 [.ref b, .int x, .retAddr 0] [] hp Q := by
  have hloop : ∀ i, i ≤ 27 → (∀ j, j < i → ¬ sr j = x) → mx_W mx_K mT mCl jP_isSource (mR 0 0) 2 [.ref b, .int x, .int (nI i)] [] hp Q := by
    refine lp_down ?_ ?_
    · intro hno
      refine mx_iload_n dP_isSource_2 rfl ?_
      refine mx_bipush (27) dP_isSource_3 (by decide) ?_
      refine mx_icmp_ge 26 dP_isSource_5 rfl (fun h5 => ?_) (fun h5 => ?_)
      rotate_left
      · exact absurd (show (27 : Int32) ≤ nI 27 by decide) h5
      refine mx_iconst (0) dP_isSource_26 (by decide) ?_
      refine mx_iret dP_isSource_27 rfl rfl ?_
      rw [i01_f (exB_no (fun j hj => by simpa using hno j hj))] at hQ
      exact hQ
    · intro i hi ih hno
      refine mx_iload_n dP_isSource_2 rfl ?_
      refine mx_bipush (27) dP_isSource_3 (by decide) ?_
      refine mx_icmp_ge 26 dP_isSource_5 rfl (fun h5 => ?_) (fun h5 => ?_)
      · exact absurd h5 (nI_ge (b := 27) hi (by decide))
      refine mx_aload_n dP_isSource_8 rfl ?_
      refine mx_get 1 3 dP_isSource_9 fgP_18 h.1 rfl ?_
      refine mx_iload_n dP_isSource_12 rfl ?_
      refine mx_iald dP_isSource_13 h.2.2.2 (vp_in_nI hi (by decide)) ?_
      refine mx_iload_n dP_isSource_14 rfl ?_
      refine mx_icmp_ne 20 dP_isSource_15 rfl (fun h15 => ?_) (fun h15 => ?_)
      · refine mx_iinc dP_isSource_20 rfl (mx_inc i) (Nat.le_of_ble_eq_true rfl) rfl ?_
        refine mx_goto 2 dP_isSource_23 rfl ?_
        refine ih (fun j hj => ?_)
        by_cases e : j = i
        · subst e; rw [nI_clamp (by omega)] at h15; exact h15
        · exact hno j (by omega)
      · refine mx_iconst (1) dP_isSource_18 (by decide) ?_
        refine mx_iret dP_isSource_19 rfl rfl ?_
        rw [nI_clamp (by omega)] at h15
        rw [i01_t (exB_iff.mpr ⟨i, hi, by simpa using h15⟩)] at hQ
        exact hQ
  refine mx_iconst (0) dP_isSource_0 (by decide) ?_
  refine mx_istore_n dP_isSource_1 (Nat.le_of_ble_eq_true rfl) rfl ?_
  exact hloop 0 (Nat.zero_le _) (fun j hj => absurd hj (Nat.not_lt_zero j))
end
section
/-! Forgetting a local; the whole picture; Plan.hasAllPins, isComplete, addGate. -/
theorem mx_drop {K : Nat → Addr → State → State → Prop} {T : List Cond} {cl : List vw_C} {J : mx_J} {R : Room} {k : Nat} {ls st : List Value} {hp : List va_E} {Q : mx_O → List va_E → Prop} (i : Nat) (kk : mx_W K T cl J R k (ls.set i (.retAddr 0)) st hp Q) : mx_W K T cl J R k ls st hp Q := by
  intro l p e s m args below meth c D dT q A H locs lsA hC hl hP hD hS
  refine kk l p e s m args below meth c D dT q A H locs lsA hC (mx_has_mono hl (fun x hx => ?_)) hP hD hS
  obtain ⟨v, h1, h2, h3⟩ := mx_l_mem.mp hx
  refine mx_l_mem.mpr ⟨v, ?_, h2, h3⟩
  rw [List.getElem?_set] at h1
  by_cases e : i = x.1
  · rw [if_pos e] at h1
    split at h1
    · exact absurd (Option.some.inj h1).symm (h2 0)
    · cases h1
  · rw [if_neg e] at h1
    exact h1
def lp {α : Type} (f : Nat → α → α) : Nat → α → α
  | 0, s => s
  | n + 1, s => f n (lp f n s)
def upI (I : Nat → Nat → Int32) (k : Nat) (f : Nat → Int32) : Nat → Nat → Int32 := fun j => if j = k then f else I j
def upL (L : Nat → Nat → Int64) (k : Nat) (f : Nat → Int64) : Nat → Nat → Int64 := fun j => if j = k then f else L j
theorem upI_own (I : Nat → Nat → Int32) (k : Nat) : upI I k (I k) = I := by
  funext j; unfold upI; by_cases h : j = k <;> simp [h]
theorem upL_own (L : Nat → Nat → Int64) (k : Nat) : upL L k (L k) = L := by
  funext j; unfold upL; by_cases h : j = k <;> simp [h]
theorem upI_self (I : Nat → Nat → Int32) (k : Nat) (f : Nat → Int32) : upI I k f k = f := if_pos rfl
theorem upI_ne (I : Nat → Nat → Int32) {k j : Nat} (f : Nat → Int32) (h : j ≠ k) : upI I k f j = I j := if_neg h
theorem upI_upI (I : Nat → Nat → Int32) (k : Nat) (f g : Nat → Int32) : upI (upI I k f) k g = upI I k g := by
  funext j; unfold upI; by_cases h : j = k <;> simp [h]
theorem upL_upL (I : Nat → Nat → Int64) (k : Nat) (f g : Nat → Int64) : upL (upL I k f) k g = upL I k g := by
  funext j; unfold upL; by_cases h : j = k <;> simp [h]
theorem upI_comm (I : Nat → Nat → Int32) {k j : Nat} (f g : Nat → Int32) (h : k ≠ j) : upI (upI I k f) j g = upI (upI I j g) k f := by
  funext i; unfold upI; by_cases h1 : i = k <;> by_cases h2 : i = j <;> simp [h1, h2]
  · exact absurd (h1.symm.trans h2) h
  · intro e; exact absurd e h
  · intro e; exact absurd e.symm h
abbrev eI (n : Nat) (f : Nat → Int32) : va_E := .inl (0, n, .inl f)
abbrev eZ (n : Nat) (f : Nat → Int32) : va_E := .inl (2, n, .inl f)
abbrev eG (o : Nat) : va_E := .inl (3, 13, .inr (.inr (.inr (.inr (fun i => if i < 13 then some (o + i) else none)))))
/-- the whole picture: 0 the object; 1 Plan; 2 bank; 3 trial; 4 Order; 5 Paths; 6 Limits; 7 Mover; 8 Clock; 9 latest; rows behind them; 26 .. 38 least, 39 .. 51 longest, 52 .. 64 most -/
def pic (cnt fil : Int32) (I : Nat → Nat → Int32) (L : Nat → Nat → Int64) : List va_E := [.inr (0, [.ref 1, .ref 2, .ref 3, .ref 4, .ref 5, .ref 6, .ref 7, .ref 8, .ref 9]), .inr (1, [.int cnt, .ref 10, .ref 11, .ref 12]), .inr (2, [.ref 13, .ref 14]), .inr (2, [.ref 15, .ref 16]), .inr (3, [.ref 17, .ref 18, .int fil]), .inr (4, [.ref 19, .ref 20]), .inr (5, [.ref 21, .ref 22]), .inr (6, [.ref 23]), .inr (7, [.ref 24, .ref 25]), eI 13 (I 9), eI 13 (I 10), eI 13 (I 11), eI 27 (I 12), eI 27 (I 13), eV (L 14), eI 27 (I 15), eV (L 16), eI 12 (I 17), eZ 13 (I 18), eG 26, eG 39, eI 13 (I 21), eG 52, eI 13 (I 23), .inr (2, [.ref 65, .ref 66]), eI 16 (I 25), eI 13 (I 26), eI 13 (I 27), eI 13 (I 28), eI 13 (I 29), eI 13 (I 30), eI 13 (I 31), eI 13 (I 32), eI 13 (I 33), eI 13 (I 34), eI 13 (I 35), eI 13 (I 36), eI 13 (I 37), eI 13 (I 38), eI 13 (I 39), eI 13 (I 40), eI 13 (I 41), eI 13 (I 42), eI 13 (I 43), eI 13 (I 44), eI 13 (I 45), eI 13 (I 46), eI 13 (I 47), eI 13 (I 48), eI 13 (I 49), eI 13 (I 50), eI 13 (I 51), eI 13 (I 52), eI 13 (I 53), eI 13 (I 54), eI 13 (I 55), eI 13 (I 56), eI 13 (I 57), eI 13 (I 58), eI 13 (I 59), eI 13 (I 60), eI 13 (I 61), eI 13 (I 62), eI 13 (I 63), eI 13 (I 64), eI 27 (I 65), eV (L 66)]
section PIC
variable {cnt fil : Int32} {I : Nat → Nat → Int32} {L : Nat → Nat → Int64}
theorem pic_P : pP (pic cnt fil I L) 1 10 11 12 cnt (I 10) (I 11) (I 12) := ⟨rfl, rfl, rfl, rfl⟩
theorem pic_B : pB (pic cnt fil I L) 2 13 14 (I 13) (L 14) := ⟨rfl, rfl, rfl⟩
theorem pic_T : pB (pic cnt fil I L) 3 15 16 (I 15) (L 16) := ⟨rfl, rfl, rfl⟩
theorem pic_S : pB (pic cnt fil I L) 24 65 66 (I 65) (L 66) := ⟨rfl, rfl, rfl⟩
theorem pic_cnt (x : Int32) : (pic cnt fil I L).set 1 (.inr (1, [.int x, .ref 10, .ref 11, .ref 12])) = pic x fil I L := rfl
theorem pic_fil (x : Int32) : (pic cnt fil I L).set 4 (.inr (3, [.ref 17, .ref 18, .int x])) = pic cnt x I L := rfl
theorem pic_9 (f : Nat → Int32) : (pic cnt fil I L).set 9 (eI 13 f) = pic cnt fil (upI I 9 f) L := rfl
theorem pic_10 (f : Nat → Int32) : (pic cnt fil I L).set 10 (eI 13 f) = pic cnt fil (upI I 10 f) L := rfl
theorem pic_11 (f : Nat → Int32) : (pic cnt fil I L).set 11 (eI 13 f) = pic cnt fil (upI I 11 f) L := rfl
theorem pic_12 (f : Nat → Int32) : (pic cnt fil I L).set 12 (eI 27 f) = pic cnt fil (upI I 12 f) L := rfl
theorem pic_13 (f : Nat → Int32) : (pic cnt fil I L).set 13 (eI 27 f) = pic cnt fil (upI I 13 f) L := rfl
theorem pic_15 (f : Nat → Int32) : (pic cnt fil I L).set 15 (eI 27 f) = pic cnt fil (upI I 15 f) L := rfl
theorem pic_17 (f : Nat → Int32) : (pic cnt fil I L).set 17 (eI 12 f) = pic cnt fil (upI I 17 f) L := rfl
theorem pic_21 (f : Nat → Int32) : (pic cnt fil I L).set 21 (eI 13 f) = pic cnt fil (upI I 21 f) L := rfl
theorem pic_23 (f : Nat → Int32) : (pic cnt fil I L).set 23 (eI 13 f) = pic cnt fil (upI I 23 f) L := rfl
theorem pic_25 (f : Nat → Int32) : (pic cnt fil I L).set 25 (eI 16 f) = pic cnt fil (upI I 25 f) L := rfl
theorem pic_65 (f : Nat → Int32) : (pic cnt fil I L).set 65 (eI 27 f) = pic cnt fil (upI I 65 f) L := rfl
theorem pic_18 (f : Nat → Int32) : (pic cnt fil I L).set 18 (eZ 13 f) = pic cnt fil (upI I 18 f) L := rfl
theorem pic_14 (f : Nat → Int64) : (pic cnt fil I L).set 14 (eV f) = pic cnt fil I (upL L 14 f) := rfl
theorem pic_16 (f : Nat → Int64) : (pic cnt fil I L).set 16 (eV f) = pic cnt fil I (upL L 16 f) := rfl
theorem pic_66 (f : Nat → Int64) : (pic cnt fil I L).set 66 (eV f) = pic cnt fil I (upL L 66 f) := rfl
theorem pic_row {k : Nat} (h1 : 26 ≤ k) (h2 : k < 65) : (pic cnt fil I L)[k]? = some (eI 13 (I k)) := by
  obtain ⟨j, rfl⟩ : ∃ j, k = j + 26 := ⟨k - 26, by omega⟩
  have hj : j < 39 := by omega
  match j, hj with
  | 0, _ => rfl
  | 1, _ => rfl
  | 2, _ => rfl
  | 3, _ => rfl
  | 4, _ => rfl
  | 5, _ => rfl
  | 6, _ => rfl
  | 7, _ => rfl
  | 8, _ => rfl
  | 9, _ => rfl
  | 10, _ => rfl
  | 11, _ => rfl
  | 12, _ => rfl
  | 13, _ => rfl
  | 14, _ => rfl
  | 15, _ => rfl
  | 16, _ => rfl
  | 17, _ => rfl
  | 18, _ => rfl
  | 19, _ => rfl
  | 20, _ => rfl
  | 21, _ => rfl
  | 22, _ => rfl
  | 23, _ => rfl
  | 24, _ => rfl
  | 25, _ => rfl
  | 26, _ => rfl
  | 27, _ => rfl
  | 28, _ => rfl
  | 29, _ => rfl
  | 30, _ => rfl
  | 31, _ => rfl
  | 32, _ => rfl
  | 33, _ => rfl
  | 34, _ => rfl
  | 35, _ => rfl
  | 36, _ => rfl
  | 37, _ => rfl
  | 38, _ => rfl
  | j + 39, h => exact absurd h (by omega)
theorem pic_srow {k : Nat} (h1 : 26 ≤ k) (h2 : k < 65) (f : Nat → Int32) : (pic cnt fil I L).set k (eI 13 f) = pic cnt fil (upI I k f) L := by
  obtain ⟨j, rfl⟩ : ∃ j, k = j + 26 := ⟨k - 26, by omega⟩
  have hj : j < 39 := by omega
  match j, hj with
  | 0, _ => rfl
  | 1, _ => rfl
  | 2, _ => rfl
  | 3, _ => rfl
  | 4, _ => rfl
  | 5, _ => rfl
  | 6, _ => rfl
  | 7, _ => rfl
  | 8, _ => rfl
  | 9, _ => rfl
  | 10, _ => rfl
  | 11, _ => rfl
  | 12, _ => rfl
  | 13, _ => rfl
  | 14, _ => rfl
  | 15, _ => rfl
  | 16, _ => rfl
  | 17, _ => rfl
  | 18, _ => rfl
  | 19, _ => rfl
  | 20, _ => rfl
  | 21, _ => rfl
  | 22, _ => rfl
  | 23, _ => rfl
  | 24, _ => rfl
  | 25, _ => rfl
  | 26, _ => rfl
  | 27, _ => rfl
  | 28, _ => rfl
  | 29, _ => rfl
  | 30, _ => rfl
  | 31, _ => rfl
  | 32, _ => rfl
  | 33, _ => rfl
  | 34, _ => rfl
  | 35, _ => rfl
  | 36, _ => rfl
  | 37, _ => rfl
  | 38, _ => rfl
  | j + 39, h => exact absurd h (by omega)
end PIC
def pn (kd : Nat → Int32) (g : Nat) : Nat := if 1 < kd g then 2 else 1
theorem pn_le (kd : Nat → Int32) (g : Nat) : 1 ≤ pn kd g ∧ pn kd g ≤ 2 := by unfold pn; split <;> omega
theorem fp_nat {g : Nat} (h : 1 ≤ g) : qP_firstPin (nI g) = nI (2 * g - 2) := by
  unfold qP_firstPin
  rw [show (1 : Int32) = nI 1 from rfl, pk_sub h, show (2 : Int32) = nI 2 from rfl, pk_mul]
  congr 1
  omega
theorem pn_nat {kd : Nat → Int32} {g : Nat} (h : g < 100) : qP_pinsOf kd (nI g) = nI (pn kd g) := by
  unfold qP_pinsOf pn
  rw [nI_clamp (by omega)]
  split <;> rfl
theorem ep_nat {kd : Nat → Int32} {g : Nat} (h1 : 1 ≤ g) (h2 : g < 100) : qP_firstPin (nI g) + qP_pinsOf kd (nI g) = nI (2 * g - 2 + pn kd g) := by rw [fp_nat h1, pn_nat h2, nI_add]
def allPins (kd sr : Nat → Int32) (g : Nat) : Bool := allB (pn kd g) (fun k => decide (¬ sr (2 * g - 2 + k) = 0))
theorem cP_hasAllPins {hp : List va_E} {b k1 k2 k3 : Nat} {cnt : Int32} {kd cs sr : Nat → Int32} {Q : mx_O → List va_E → Prop} (h : pP hp b k1 k2 k3 cnt kd cs sr) {g : Nat} (g1 : 1 ≤ g) (g2 : g ≤ 12) (hQ : Q (.inl (some (.int (i01 (allPins kd sr g))))) (hp)) : mx_W mx_K mT mCl jP_hasAllPins (mR 2 42) 0 [.ref b, .int (nI g), .retAddr 0] [] hp Q := by
  have hg : vp_in (nI g) 13 := vp_in_nI (by omega) (by decide)
  have hp2 := pn_le kd g
  have hloop : ∀ i, i ≤ pn kd g → (∀ j, j < i → ¬ sr (2 * g - 2 + j) = 0) → mx_W mx_K mT mCl jP_hasAllPins (mR 2 42) 6 [.ref b, .int (nI g), .int (nI (2 * g - 2 + i))] [] hp Q := by
    refine lp_down ?_ ?_
    · intro hno
      refine mx_iload_n dP_hasAllPins_6 rfl ?_
      refine mx_aload_n dP_hasAllPins_7 rfl ?_
      refine mx_iload_n dP_hasAllPins_8 rfl ?_
      refine mx_V1 (R' := (mR 1 21)) [_] _ dP_hasAllPins_9 rfl mT_G jP_endOfPins_ok jP_endOfPins_v lkP_51 ⟨rfl, rfl, Nat.le_of_ble_eq_true rfl, Nat.le_of_ble_eq_true rfl⟩ rfl rfl (Nat.le_of_ble_eq_true rfl) (Nat.le_of_ble_eq_true rfl) h.1 rfl rfl (fun Qc qc => cP_endOfPins h hg qc) ?_
      rw [ep_nat g1 (by omega)]
      refine mx_icmp_ge 32 dP_hasAllPins_12 rfl (fun h12 => ?_) (fun h12 => ?_)
      rotate_left
      · exact absurd (nI_le (Nat.le_refl _) (by omega)) h12
      refine mx_iconst (1) dP_hasAllPins_32 (by decide) ?_
      refine mx_iret dP_hasAllPins_33 rfl rfl ?_
      rw [i01_t (show allPins kd sr g = true from allB_iff.mpr (fun j hj => by simpa using hno j hj))] at hQ
      exact hQ
    · intro i hi ih hno
      refine mx_iload_n dP_hasAllPins_6 rfl ?_
      refine mx_aload_n dP_hasAllPins_7 rfl ?_
      refine mx_iload_n dP_hasAllPins_8 rfl ?_
      refine mx_V1 (R' := (mR 1 21)) [_] _ dP_hasAllPins_9 rfl mT_G jP_endOfPins_ok jP_endOfPins_v lkP_51 ⟨rfl, rfl, Nat.le_of_ble_eq_true rfl, Nat.le_of_ble_eq_true rfl⟩ rfl rfl (Nat.le_of_ble_eq_true rfl) (Nat.le_of_ble_eq_true rfl) h.1 rfl rfl (fun Qc qc => cP_endOfPins h hg qc) ?_
      rw [ep_nat g1 (by omega)]
      refine mx_icmp_ge 32 dP_hasAllPins_12 rfl (fun h12 => ?_) (fun h12 => ?_)
      · exact absurd h12 (nI_ge (by omega) (by omega))
      refine mx_aload_n dP_hasAllPins_15 rfl ?_
      refine mx_get 1 3 dP_hasAllPins_16 fgP_18 h.1 rfl ?_
      refine mx_iload_n dP_hasAllPins_19 rfl ?_
      refine mx_iald dP_hasAllPins_20 h.2.2.2 (vp_in_nI (by omega) (by decide)) ?_
      refine mx_if_ne 26 dP_hasAllPins_21 rfl (fun h21 => ?_) (fun h21 => ?_)
      · refine mx_iinc dP_hasAllPins_26 rfl (mx_inc _) (Nat.le_of_ble_eq_true rfl) rfl ?_
        refine mx_goto 6 dP_hasAllPins_29 rfl ?_
        rw [nI_clamp (by omega)] at h21
        refine ih (fun j hj => ?_)
        by_cases e : j = i
        · subst e; exact h21
        · exact hno j (by omega)
      · refine mx_iconst (0) dP_hasAllPins_24 (by decide) ?_
        refine mx_iret dP_hasAllPins_25 rfl rfl ?_
        rw [nI_clamp (by omega)] at h21
        rw [i01_f (show allPins kd sr g = false from allB_no hi (by simpa using h21))] at hQ
        exact hQ
  refine mx_aload_n dP_hasAllPins_0 rfl ?_
  refine mx_iload_n dP_hasAllPins_1 rfl ?_
  refine mx_V1 (R' := (mR 0 0)) [_] _ dP_hasAllPins_2 rfl mT_G jP_firstPin_ok jP_firstPin_v lkP_36 ⟨rfl, rfl, Nat.le_of_ble_eq_true rfl, Nat.le_of_ble_eq_true rfl⟩ rfl rfl (Nat.le_of_ble_eq_true rfl) (Nat.le_of_ble_eq_true rfl) h.1 rfl rfl (fun Qc qc => cP_firstPin qc) ?_
  rw [fp_nat g1]
  refine mx_istore_n dP_hasAllPins_5 (Nat.le_of_ble_eq_true rfl) rfl ?_
  exact hloop 0 (Nat.zero_le _) (fun j hj => absurd hj (Nat.not_lt_zero j))
def isCompl (c : Nat) (kd sr : Nat → Int32) : Bool := allB c (fun i => allPins kd sr (i + 1) && exB 27 (fun j => decide (sr j = nI (i + 1))))
theorem cP_isComplete {hp : List va_E} {b k1 k2 k3 : Nat} {c : Nat} {kd cs sr : Nat → Int32} {Q : mx_O → List va_E → Prop} (h : pP hp b k1 k2 k3 (nI c) kd cs sr) (hc : c ≤ 12) (hQ : Q (.inl (some (.int (i01 (isCompl c kd sr))))) (hp)) : mx_W mx_K mT mCl jP_isComplete (mR 3 64) 0 [.ref b, .retAddr 0] [] hp Q := by
  have hloop : ∀ i, i ≤ c → (∀ j, j < i → (allPins kd sr (j + 1) && exB 27 (fun w => decide (sr w = nI (j + 1)))) = true) → mx_W mx_K mT mCl jP_isComplete (mR 3 64) 2 [.ref b, .int (nI (i + 1))] [] hp Q := by
    refine lp_down ?_ ?_
    · intro hno
      refine mx_iload_n dP_isComplete_2 rfl ?_
      refine mx_aload_n dP_isComplete_3 rfl ?_
      refine mx_get 1 0 dP_isComplete_4 fgP_21 h.1 rfl ?_
      refine mx_icmp_gt 34 dP_isComplete_7 rfl (fun h7 => ?_) (fun h7 => ?_)
      rotate_left
      · exact absurd (nI_lt (Nat.lt_succ_self c) (by omega)) h7
      refine mx_iconst (1) dP_isComplete_34 (by decide) ?_
      refine mx_iret dP_isComplete_35 rfl rfl ?_
      rw [i01_t (show isCompl c kd sr = true from allB_iff.mpr (fun j hj => hno j hj))] at hQ
      exact hQ
    · intro i hi ih hno
      refine mx_iload_n dP_isComplete_2 rfl ?_
      refine mx_aload_n dP_isComplete_3 rfl ?_
      refine mx_get 1 0 dP_isComplete_4 fgP_21 h.1 rfl ?_
      refine mx_icmp_gt 34 dP_isComplete_7 rfl (fun h7 => ?_) (fun h7 => ?_)
      · exact absurd h7 (nI_nlt (by omega) (by omega))
      refine mx_aload_n dP_isComplete_10 rfl ?_
      refine mx_iload_n dP_isComplete_11 rfl ?_
      refine mx_V1 (R' := (mR 2 42)) [_] _ dP_isComplete_12 rfl mT_G jP_hasAllPins_ok jP_hasAllPins_v lkP_45 ⟨rfl, rfl, Nat.le_of_ble_eq_true rfl, Nat.le_of_ble_eq_true rfl⟩ rfl rfl (Nat.le_of_ble_eq_true rfl) (Nat.le_of_ble_eq_true rfl) h.1 rfl rfl (fun Qc qc => cP_hasAllPins h (by omega) (by omega) qc) ?_
      refine mx_if_eq 26 dP_isComplete_15 rfl (fun h15 => ?_) (fun h15 => ?_)
      · refine mx_iconst (0) dP_isComplete_26 (by decide) ?_
        refine mx_iret dP_isComplete_27 rfl rfl ?_
        have hf : ¬ (allPins kd sr (i + 1) && exB 27 (fun w => decide (sr w = nI (i + 1)))) = true := by
          intro hh
          obtain ⟨a1, a2⟩ := Bool.and_eq_true_iff.mp hh
          first | (rw [i01_t a1] at h15; exact absurd h15 (by decide)) | (rw [i01_t a2] at h23; exact absurd h23 (by decide))
        rw [i01_f (show isCompl c kd sr = false from allB_no hi hf)] at hQ
        exact hQ
      · refine mx_aload_n dP_isComplete_18 rfl ?_
        refine mx_iload_n dP_isComplete_19 rfl ?_
        refine mx_V1 (R' := (mR 0 0)) [_] _ dP_isComplete_20 rfl mT_G jP_isSource_ok jP_isSource_v lkP_48 ⟨rfl, rfl, Nat.le_of_ble_eq_true rfl, Nat.le_of_ble_eq_true rfl⟩ rfl rfl (Nat.le_of_ble_eq_true rfl) (Nat.le_of_ble_eq_true rfl) h.1 rfl rfl (fun Qc qc => cP_isSource h qc) ?_
        refine mx_if_ne 28 dP_isComplete_23 rfl (fun h23 => ?_) (fun h23 => ?_)
        · refine mx_iinc dP_isComplete_28 rfl (mx_inc _) (Nat.le_of_ble_eq_true rfl) rfl ?_
          refine mx_goto 2 dP_isComplete_31 rfl ?_
          refine ih (fun j hj => ?_)
          by_cases e : j = i
          · subst e
            refine Bool.and_eq_true_iff.mpr ⟨?_, ?_⟩
            · cases e1 : allPins kd sr (j + 1) with
              | true => rfl
              | false => exact absurd (i01_f e1) h15
            · cases e1 : exB 27 (fun w => decide (sr w = nI (j + 1))) with
              | true => rfl
              | false => exact absurd (i01_f e1) h23
          · exact hno j (by omega)
        · refine mx_iconst (0) dP_isComplete_26 (by decide) ?_
          refine mx_iret dP_isComplete_27 rfl rfl ?_
          have hf : ¬ (allPins kd sr (i + 1) && exB 27 (fun w => decide (sr w = nI (i + 1)))) = true := by
            intro hh
            obtain ⟨a1, a2⟩ := Bool.and_eq_true_iff.mp hh
            first | (rw [i01_t a1] at h15; exact absurd h15 (by decide)) | (rw [i01_t a2] at h23; exact absurd h23 (by decide))
          rw [i01_f (show isCompl c kd sr = false from allB_no hi hf)] at hQ
          exact hQ
  refine mx_iconst (1) dP_isComplete_0 (by decide) ?_
  refine mx_istore_n dP_isComplete_1 (Nat.le_of_ble_eq_true rfl) rfl ?_
  exact hloop 0 (Nat.zero_le _) (fun j hj => absurd hj (Nat.not_lt_zero j))
theorem cP_addGate {c : Nat} {fil x y : Int32} {I : Nat → Nat → Int32} {L : Nat → Nat → Int64} {Q : mx_O → List va_E → Prop} (hc : c < 12) (hQ : Q (.inl none) (pic (nI (c + 1)) fil (upI (upI I 10 (upd (I 10) (c + 1) x)) 11 (upd (I 11) (c + 1) y)) L)) : mx_W mx_K mT mCl jP_addGate (mR 0 0) 0 [.ref 1, .int x, .int y] [] (pic (nI c) fil I L) Q := by
  refine mx_aload_n dP_addGate_0 rfl ?_
  refine mx_dup dP_addGate_1 rfl ?_
  refine mx_get 1 0 dP_addGate_2 fgP_21 pic_P.1 rfl ?_
  refine mx_iconst (1) dP_addGate_5 (by decide) ?_
  refine mx_iadd dP_addGate_6 ?_
  refine mx_put 1 0 (.int) dP_addGate_7 fpP_21 pic_P.1 (Nat.le_of_ble_eq_true rfl) rfl rfl ?_
  rw [show nI c + 1 = nI (c + 1) from nI_1 c]
  refine mx_eqs rfl rfl rfl (pic_cnt (nI (c + 1))) ?_
  refine mx_aload_n dP_addGate_10 rfl ?_
  refine mx_get 1 1 dP_addGate_11 fgP_9 pic_P.1 rfl ?_
  refine mx_aload_n dP_addGate_14 rfl ?_
  refine mx_get 1 0 dP_addGate_15 fgP_21 pic_P.1 rfl ?_
  refine mx_iload_n dP_addGate_18 rfl ?_
  refine mx_iast dP_addGate_19 pic_P.2.1 (vp_in_nI (by omega) (by decide)) ?_
  refine mx_eqs rfl rfl rfl (pic_10 _) ?_
  refine mx_aload_n dP_addGate_20 rfl ?_
  refine mx_get 1 2 dP_addGate_21 fgP_15 pic_P.1 rfl ?_
  refine mx_aload_n dP_addGate_24 rfl ?_
  refine mx_get 1 0 dP_addGate_25 fgP_21 pic_P.1 rfl ?_
  refine mx_iload_n dP_addGate_28 rfl ?_
  refine mx_iast dP_addGate_29 pic_P.2.2.1 (vp_in_nI (by omega) (by decide)) ?_
  refine mx_vret dP_addGate_30 rfl ?_
  rw [nI_clamp (by omega)]
  exact hQ
end
section
/-! Order: isReady, placeReady, arrange; A.isSound. -/
def bh (sr : Nat → Int32) (w : Nat) : Int32 := if sr w < 0 then 0 else sr w
theorem gb_nat {sr : Nat → Int32} {w : Nat} (h : w < 2 ^ 31) : qP_gateBehind sr (nI w) = bh sr w := by
  unfold qP_gateBehind bh
  rw [nI_clamp h]
theorem bh_in {sr : Nat → Int32} {w : Nat} (h : sr w ≤ 12) : vp_in (bh sr w) 13 := by
  rw [vp_in_iff]
  unfold bh
  have h2 : (sr w).toInt ≤ 12 := by simpa using Int32.le_iff_toInt_le.mp h
  split
  · decide
  · rename_i h3
    have h4 : ¬ (sr w).toInt < 0 := fun e => h3 (Int32.lt_iff_toInt_lt.mpr (by simpa using e))
    omega
/-- gate g waits for none: of its wires none without registers comes from a gate that isn't placed -/
def rdyB (sr ln P : Nat → Int32) (w : Nat) : Bool := !(decide (ln w = 0) && (decide (¬ bh sr w = 0) && decide (P (bh sr w).toNatClampNeg = 0)))
def rdyK (kd sr ln P : Nat → Int32) (g : Nat) : Bool := allB (pn kd g) (fun k => rdyB sr ln P (2 * g - 2 + k))
theorem cO_isReady {c : Nat} {fil : Int32} {I : Nat → Nat → Int32} {L : Nat → Nat → Int64} {Q : mx_O → List va_E → Prop} (hc : c ≤ 12) (hsr : ∀ w, w < 27 → I 12 w ≤ 12) {g : Nat} (g1 : 1 ≤ g) (g2 : g ≤ 12) (hQ : Q (.inl (some (.int (i01 (rdyK (I 10) (I 12) (I 13) (I 18) g))))) ((pic (nI c) fil I L))) : mx_W mx_K mT mCl jO_isReady (mR 2 45) 0 [.ref 4, .ref 1, .ref 2, .int (nI g), .retAddr 0, .retAddr 0] [] (pic (nI c) fil I L) Q := by
  have hg : vp_in (nI g) 13 := vp_in_nI (by omega) (by decide)
  have hp2 := pn_le (I 10) g
  have hloop : ∀ i, i ≤ pn (I 10) g → (∀ j, j < i → rdyB (I 12) (I 13) (I 18) (2 * g - 2 + j) = true) → mx_W mx_K mT mCl jO_isReady (mR 2 45) 7 [.ref 4, .ref 1, .ref 2, .int (nI g), .int (nI (2 * g - 2 + i)), .retAddr 0] [] (pic (nI c) fil I L) Q := by
    refine lp_down ?_ ?_
    · intro hno
      refine mx_iload dO_isReady_7 rfl ?_
      refine mx_aload_n dO_isReady_9 rfl ?_
      refine mx_iload_n dO_isReady_10 rfl ?_
      refine mx_V1 (R' := (mR 1 21)) [_] _ dO_isReady_11 rfl mT_G jP_endOfPins_ok jP_endOfPins_v lkO_40 ⟨rfl, rfl, Nat.le_of_ble_eq_true rfl, Nat.le_of_ble_eq_true rfl⟩ rfl rfl (Nat.le_of_ble_eq_true rfl) (Nat.le_of_ble_eq_true rfl) pic_P.1 rfl rfl (fun Qc qc => cP_endOfPins pic_P hg qc) ?_
      rw [ep_nat g1 (by omega)]
      refine mx_icmp_ge 57 dO_isReady_14 rfl (fun h14 => ?_) (fun h14 => ?_)
      rotate_left
      · exact absurd (nI_le (Nat.le_refl _) (by omega)) h14
      refine mx_iconst (1) dO_isReady_57 (by decide) ?_
      refine mx_iret dO_isReady_58 rfl rfl ?_
      rw [i01_t (show rdyK (I 10) (I 12) (I 13) (I 18) g = true from allB_iff.mpr hno)] at hQ
      exact hQ
    · intro i hi ih hno
      refine mx_iload dO_isReady_7 rfl ?_
      refine mx_aload_n dO_isReady_9 rfl ?_
      refine mx_iload_n dO_isReady_10 rfl ?_
      refine mx_V1 (R' := (mR 1 21)) [_] _ dO_isReady_11 rfl mT_G jP_endOfPins_ok jP_endOfPins_v lkO_40 ⟨rfl, rfl, Nat.le_of_ble_eq_true rfl, Nat.le_of_ble_eq_true rfl⟩ rfl rfl (Nat.le_of_ble_eq_true rfl) (Nat.le_of_ble_eq_true rfl) pic_P.1 rfl rfl (fun Qc qc => cP_endOfPins pic_P hg qc) ?_
      rw [ep_nat g1 (by omega)]
      refine mx_icmp_ge 57 dO_isReady_14 rfl (fun h14 => ?_) (fun h14 => ?_)
      · exact absurd h14 (nI_ge (by omega) (by omega))
      refine mx_aload_n dO_isReady_17 rfl ?_
      refine mx_iload dO_isReady_18 rfl ?_
      refine mx_V1 (R' := (mR 1 24)) [_] _ dO_isReady_20 rfl mT_G jP_gateBehind_ok jP_gateBehind_v lkO_43 ⟨rfl, rfl, Nat.le_of_ble_eq_true rfl, Nat.le_of_ble_eq_true rfl⟩ rfl rfl (Nat.le_of_ble_eq_true rfl) (Nat.le_of_ble_eq_true rfl) pic_P.1 rfl rfl (fun Qc qc => cP_gateBehind pic_P (vp_in_nI (by omega) (by decide)) qc) ?_
      rw [gb_nat (by omega)]
      refine mx_istore dO_isReady_23 (Nat.le_of_ble_eq_true rfl) rfl ?_
      refine mx_aload_n dO_isReady_25 rfl ?_
      refine mx_iload dO_isReady_26 rfl ?_
      refine mx_V1 (R' := (mR 0 0)) [_] _ dO_isReady_28 rfl mT_G jB_length_ok jB_length_v lkO_46 ⟨rfl, rfl, Nat.le_of_ble_eq_true rfl, Nat.le_of_ble_eq_true rfl⟩ rfl rfl (Nat.le_of_ble_eq_true rfl) (Nat.le_of_ble_eq_true rfl) pic_B.1 rfl rfl (fun Qc qc => cB_length pic_B (vp_in_nI (by omega) (by decide)) qc) ?_
      rw [nI_clamp (by omega)]
      refine mx_if_ne 51 dO_isReady_31 rfl (fun h31 => ?_) (fun h31 => ?_)
      · refine mx_iinc dO_isReady_51 rfl (mx_inc _) (Nat.le_of_ble_eq_true rfl) rfl ?_
        refine mx_goto 7 dO_isReady_54 rfl ?_
        refine mx_drop 5 ?_
        refine ih (fun j hj => ?_)
        by_cases e : j = i
        · subst e; simp [rdyB, h14, h31]
        · exact hno j (by omega)
      · refine mx_iload dO_isReady_34 rfl ?_
        refine mx_if_eq 51 dO_isReady_36 rfl (fun h36 => ?_) (fun h36 => ?_)
        · refine mx_iinc dO_isReady_51 rfl (mx_inc _) (Nat.le_of_ble_eq_true rfl) rfl ?_
          refine mx_goto 7 dO_isReady_54 rfl ?_
          refine mx_drop 5 ?_
          refine ih (fun j hj => ?_)
          by_cases e : j = i
          · subst e; simp [rdyB, h14, h31, h36]
          · exact hno j (by omega)
        · refine mx_aload_n dO_isReady_39 rfl ?_
          refine mx_get 3 1 dO_isReady_40 fgO_15 rfl rfl ?_
          refine mx_iload dO_isReady_43 rfl ?_
          refine mx_zald dO_isReady_45 rfl (bh_in (hsr _ (by omega))) ?_
          refine mx_if_ne 51 dO_isReady_46 rfl (fun h46 => ?_) (fun h46 => ?_)
          · refine mx_iinc dO_isReady_51 rfl (mx_inc _) (Nat.le_of_ble_eq_true rfl) rfl ?_
            refine mx_goto 7 dO_isReady_54 rfl ?_
            refine mx_drop 5 ?_
            refine ih (fun j hj => ?_)
            by_cases e : j = i
            · subst e; simp [rdyB, h14, h31, h36, h46]
            · exact hno j (by omega)
          · refine mx_iconst (0) dO_isReady_49 (by decide) ?_
            refine mx_iret dO_isReady_50 rfl rfl ?_
            rw [i01_f (show rdyK (I 10) (I 12) (I 13) (I 18) g = false from allB_no hi (by simp [rdyB, h31, h36, h46]))] at hQ
            exact hQ
  refine mx_aload_n dO_isReady_0 rfl ?_
  refine mx_iload_n dO_isReady_1 rfl ?_
  refine mx_V1 (R' := (mR 0 0)) [_] _ dO_isReady_2 rfl mT_G jP_firstPin_ok jP_firstPin_v lkO_36 ⟨rfl, rfl, Nat.le_of_ble_eq_true rfl, Nat.le_of_ble_eq_true rfl⟩ rfl rfl (Nat.le_of_ble_eq_true rfl) (Nat.le_of_ble_eq_true rfl) pic_P.1 rfl rfl (fun Qc qc => cP_firstPin qc) ?_
  rw [fp_nat g1]
  refine mx_istore dO_isReady_5 (Nat.le_of_ble_eq_true rfl) rfl ?_
  exact hloop 0 (Nat.zero_le _) (fun j hj => absurd hj (Nat.not_lt_zero j))
/-- how many of the gates 1 .. n are placed -/
def cntP (P : Nat → Int32) : Nat → Nat
  | 0 => 0
  | n + 1 => cntP P n + (if P (n + 1) = 0 then 0 else 1)
theorem cntP_le (P : Nat → Int32) : ∀ n, cntP P n ≤ n
  | 0 => Nat.le_refl _
  | n + 1 => by have := cntP_le P n; unfold cntP; split <;> omega
theorem cntP_lt {P : Nat → Int32} {g : Nat} (g1 : 1 ≤ g) (hg : P g = 0) : ∀ n, g ≤ n → cntP P n < n
  | 0, h => absurd h (by omega)
  | n + 1, h => by
    unfold cntP
    by_cases e : g = n + 1
    · subst e
      have := cntP_le P n
      rw [if_pos hg]
      omega
    · have := cntP_lt g1 hg n (by omega)
      split <;> omega
theorem cntP_other {P : Nat → Int32} {g : Nat} {x : Int32} : ∀ n, n < g → cntP (upd P g x) n = cntP P n
  | 0, _ => rfl
  | n + 1, h => by
    unfold cntP
    rw [cntP_other n (by omega), pk_un (by omega)]
theorem cntP_upd {P : Nat → Int32} {g : Nat} {x : Int32} (g1 : 1 ≤ g) (hg : P g = 0) (hx : ¬ x = 0) : ∀ n, g ≤ n → cntP (upd P g x) n = cntP P n + 1
  | 0, h => absurd h (by omega)
  | n + 1, h => by
    unfold cntP
    by_cases e : g = n + 1
    · subst e
      rw [cntP_other n (by omega), pk_us, if_neg hx, if_pos hg]
    · rw [cntP_upd g1 hg hx n (by omega), pk_un (by omega)]
      omega
theorem cntP_all {P : Nat → Int32} {n : Nat} (h : cntP P n = n) : ∀ g, 1 ≤ g → g ≤ n → ¬ P g = 0 := fun g g1 g2 hg => by
  have := cntP_lt g1 hg n g2
  omega
theorem cntP_0 {P : Nat → Int32} : ∀ n, (∀ g, 1 ≤ g → g ≤ n → P g = 0) → cntP P n = 0
  | 0, _ => rfl
  | n + 1, h => by
    unfold cntP
    rw [cntP_0 n (fun g h1 h2 => h g h1 (by omega)), if_pos (h (n + 1) (by omega) (Nat.le_refl _))]
/-- placed, place, filled -/
abbrev oS : Type := (Nat → Int32) × (Nat → Int32) × Nat
def oStep (rd : (Nat → Int32) → Nat → Bool) (g : Nat) (s : oS) : oS := if s.1 g = 0 then (if rd s.1 g = true then (upd s.1 g 1, upd s.2.1 s.2.2 (nI g), s.2.2 + 1) else s) else s
def oRound (rd : (Nat → Int32) → Nat → Bool) (c : Nat) (s : oS) : oS := lp (fun i => oStep rd (i + 1)) c s
def oRun (rd : (Nat → Int32) → Nat → Bool) (c : Nat) : Nat → oS → oS
  | 0, s => s
  | n + 1, s => if s.2.2 < c then oRun rd c n (oRound rd c s) else s
def oPic (I : Nat → Nat → Int32) (L : Nat → Nat → Int64) (c : Nat) (s : oS) : List va_E := pic (nI c) (nI s.2.2) (upI (upI I 17 s.2.1) 18 s.1) L
theorem oStep_inv {rd : (Nat → Int32) → Nat → Bool} {c g : Nat} {s : oS} (g1 : 1 ≤ g) (g2 : g ≤ c) (h : s.2.2 = cntP s.1 c) : (oStep rd g s).2.2 = cntP (oStep rd g s).1 c := by
  unfold oStep
  split
  · rename_i h1
    split
    · show s.2.2 + 1 = cntP (upd s.1 g 1) c
      rw [cntP_upd g1 h1 (by decide) c g2, h]
    · exact h
  · exact h
theorem oLp_inv {rd : (Nat → Int32) → Nat → Bool} {c : Nat} {s : oS} (h : s.2.2 = cntP s.1 c) : ∀ i, i ≤ c → (lp (fun i => oStep rd (i + 1)) i s).2.2 = cntP (lp (fun i => oStep rd (i + 1)) i s).1 c
  | 0, _ => h
  | i + 1, hi => oStep_inv (by omega) hi (oLp_inv h i (by omega))
theorem cO_placeReady {c : Nat} {I : Nat → Nat → Int32} {L : Nat → Nat → Int64} {Q : mx_O → List va_E → Prop} (hc : c ≤ 12) (hsr : ∀ w, w < 27 → I 12 w ≤ 12) {s : oS} (hs : s.2.2 = cntP s.1 c) (hQ : Q (.inl none) (oPic I L c (oRound (rdyK (I 10) (I 12) (I 13)) c s))) : mx_W mx_K mT mCl jO_placeReady (mR 3 70) 0 [.ref 4, .ref 1, .ref 2, .retAddr 0] [] (oPic I L c s) Q := by
  have hloop : ∀ i, i ≤ c → mx_W mx_K mT mCl jO_placeReady (mR 3 70) 2 [.ref 4, .ref 1, .ref 2, .int (nI (i + 1))] [] (oPic I L c (lp (fun i => oStep (rdyK (I 10) (I 12) (I 13)) (i + 1)) i s)) Q := by
    refine lp_down ?_ ?_
    · refine mx_iload_n dO_placeReady_2 rfl ?_
      refine mx_aload_n dO_placeReady_3 rfl ?_
      refine mx_get 1 0 dO_placeReady_4 fgO_23 rfl rfl ?_
      refine mx_icmp_gt 62 dO_placeReady_7 rfl (fun h7 => ?_) (fun h7 => ?_)
      rotate_left
      · exact absurd (nI_lt (Nat.lt_succ_self c) (by omega)) h7
      refine mx_vret dO_placeReady_62 rfl ?_
      exact hQ
    · intro i hi ih
      have hinv := oLp_inv (rd := (rdyK (I 10) (I 12) (I 13))) hs i (by omega)
      have ih : mx_W mx_K mT mCl jO_placeReady (mR 3 70) 2 [.ref 4, .ref 1, .ref 2, .int (nI (i + 1 + 1))] [] (oPic I L c (oStep (rdyK (I 10) (I 12) (I 13)) (i + 1) (lp (fun i => oStep (rdyK (I 10) (I 12) (I 13)) (i + 1)) i s))) Q := ih
      generalize lp (fun i => oStep (rdyK (I 10) (I 12) (I 13)) (i + 1)) i s = t at ih hinv ⊢
      refine mx_iload_n dO_placeReady_2 rfl ?_
      refine mx_aload_n dO_placeReady_3 rfl ?_
      refine mx_get 1 0 dO_placeReady_4 fgO_23 rfl rfl ?_
      refine mx_icmp_gt 62 dO_placeReady_7 rfl (fun h7 => ?_) (fun h7 => ?_)
      · exact absurd h7 (nI_nlt (by omega) (by omega))
      refine mx_aload_n dO_placeReady_10 rfl ?_
      refine mx_get 3 1 dO_placeReady_11 fgO_15 rfl rfl ?_
      refine mx_iload_n dO_placeReady_14 rfl ?_
      refine mx_zald dO_placeReady_15 rfl (vp_in_nI (by omega) (by decide)) ?_
      rw [nI_clamp (by omega)]
      refine mx_if_ne 56 dO_placeReady_16 rfl (fun h16 => ?_) (fun h16 => ?_)
      · refine mx_iinc dO_placeReady_56 rfl (mx_inc _) (Nat.le_of_ble_eq_true rfl) rfl ?_
        refine mx_goto 2 dO_placeReady_59 rfl ?_
        have h16 : ¬ t.1 (i + 1) = 0 := h16
        have e1 : oStep (rdyK (I 10) (I 12) (I 13)) (i + 1) t = t := by unfold oStep; rw [if_neg h16]
        rw [e1] at ih
        exact ih
      · refine mx_aload_n dO_placeReady_19 rfl ?_
        refine mx_aload_n dO_placeReady_20 rfl ?_
        refine mx_aload_n dO_placeReady_21 rfl ?_
        refine mx_iload_n dO_placeReady_22 rfl ?_
        refine mx_V1 (R' := (mR 2 45)) [_, _, _] _ dO_placeReady_23 rfl mT_G jO_isReady_ok jO_isReady_v lkO_32 ⟨rfl, rfl, Nat.le_of_ble_eq_true rfl, Nat.le_of_ble_eq_true rfl⟩ rfl rfl (Nat.le_of_ble_eq_true rfl) (Nat.le_of_ble_eq_true rfl) rfl rfl rfl (fun Qc qc => cO_isReady (I := upI (upI I 17 t.2.1) 18 t.1) hc hsr (by omega) (by omega) qc) ?_
        refine mx_if_eq 56 dO_placeReady_26 rfl (fun h26 => ?_) (fun h26 => ?_)
        · refine mx_iinc dO_placeReady_56 rfl (mx_inc _) (Nat.le_of_ble_eq_true rfl) rfl ?_
          refine mx_goto 2 dO_placeReady_59 rfl ?_
          have e1 : oStep (rdyK (I 10) (I 12) (I 13)) (i + 1) t = t := by
            unfold oStep
            by_cases q1 : t.1 (i + 1) = 0
            · rw [if_pos q1]
              cases q2 : rdyK (I 10) (I 12) (I 13) t.1 (i + 1) with
              | true => exact absurd ((i01_t q2).symm.trans h26) (by decide)
              | false => rfl
            · rw [if_neg q1]
          rw [e1] at ih
          exact ih
        · refine mx_aload_n dO_placeReady_29 rfl ?_
          refine mx_get 3 1 dO_placeReady_30 fgO_15 rfl rfl ?_
          refine mx_iload_n dO_placeReady_33 rfl ?_
          refine mx_iconst (1) dO_placeReady_34 (by decide) ?_
          refine mx_zast dO_placeReady_35 rfl (vp_in_nI (by omega) (by decide)) ?_
          rw [nI_clamp (by omega)]
          have h16 : t.1 (i + 1) = 0 := h16
          have hlt : t.2.2 < 12 := by rw [hinv]; exact Nat.lt_of_lt_of_le (cntP_lt (by omega) h16 c (by omega)) hc
          refine mx_eqs (hp' := pic (nI c) (nI t.2.2) (upI (upI I 17 t.2.1) 18 (upd t.1 (i + 1) 1)) L) rfl rfl rfl (by
            rw [← upI_upI (upI I 17 t.2.1) 18 t.1]
            rfl) ?_
          refine mx_aload_n dO_placeReady_36 rfl ?_
          refine mx_get 3 0 dO_placeReady_37 fgO_9 rfl rfl ?_
          refine mx_aload_n dO_placeReady_40 rfl ?_
          refine mx_get 3 2 dO_placeReady_41 fgO_19 rfl rfl ?_
          refine mx_iload_n dO_placeReady_44 rfl ?_
          refine mx_iast dO_placeReady_45 rfl (vp_in_nI hlt (by decide)) ?_
          rw [nI_clamp (by omega)]
          refine mx_eqs (hp' := pic (nI c) (nI t.2.2) (upI (upI I 17 (upd t.2.1 t.2.2 (nI (i + 1)))) 18 (upd t.1 (i + 1) 1)) L) rfl rfl rfl (by
            rw [← upI_upI I 17 t.2.1, upI_comm _ _ _ (by decide : (17 : Nat) ≠ 18)]
            rfl) ?_
          refine mx_aload_n dO_placeReady_46 rfl ?_
          refine mx_dup dO_placeReady_47 rfl ?_
          refine mx_get 3 2 dO_placeReady_48 fgO_19 rfl rfl ?_
          refine mx_iconst (1) dO_placeReady_51 (by decide) ?_
          refine mx_iadd dO_placeReady_52 ?_
          refine mx_put 3 2 (.int) dO_placeReady_53 fpO_19 rfl (Nat.le_of_ble_eq_true rfl) rfl rfl ?_
          refine mx_iinc dO_placeReady_56 rfl (mx_inc _) (Nat.le_of_ble_eq_true rfl) rfl ?_
          refine mx_goto 2 dO_placeReady_59 rfl ?_
          have e1 : oStep (rdyK (I 10) (I 12) (I 13)) (i + 1) t = (upd t.1 (i + 1) 1, upd t.2.1 t.2.2 (nI (i + 1)), t.2.2 + 1) := by
            unfold oStep
            rw [if_pos h16]
            cases q2 : rdyK (I 10) (I 12) (I 13) t.1 (i + 1) with
            | true => rfl
            | false => exact absurd (i01_f q2) h26
          rw [e1] at ih
          refine mx_eqs rfl rfl rfl ?_ ih
          show (pic (nI c) (nI t.2.2) _ L).set 4 (.inr (3, [.ref 17, .ref 18, .int (nI t.2.2 + 1)])) = _
          rw [pic_fil, nI_1]
          rfl
  refine mx_iconst (1) dO_placeReady_0 (by decide) ?_
  refine mx_istore_n dO_placeReady_1 (Nat.le_of_ble_eq_true rfl) rfl ?_
  exact hloop 0 (Nat.zero_le _)
end
section
/-! Order.arrange; A.isSound. -/
def zer (c : Nat) (P : Nat → Int32) : Nat → Int32 := lp (fun j P => upd P (j + 1) 0) c P
theorem zer_0 {P : Nat → Int32} : ∀ c g, 1 ≤ g → g ≤ c → lp (fun j P => upd P (j + 1) (0 : Int32)) c P g = 0
  | 0, g, h1, h2 => absurd h1 (by omega)
  | c + 1, g, h1, h2 => by
    show upd (lp (fun j P => upd P (j + 1) (0 : Int32)) c P) (c + 1) 0 g = 0
    by_cases e : g = c + 1
    · subst e; exact pk_us
    · rw [pk_un e]; exact zer_0 c g h1 (by omega)
theorem oRound_inv {rd : (Nat → Int32) → Nat → Bool} {c : Nat} {s : oS} (h : s.2.2 = cntP s.1 c) : (oRound rd c s).2.2 = cntP (oRound rd c s).1 c := oLp_inv h c (Nat.le_refl _)
/-- the order of the gates, as arrange leaves it -/
def oFin (c : Nat) (I : Nat → Nat → Int32) : oS := oRun (rdyK (I 10) (I 12) (I 13)) c c (zer c (I 18), I 17, 0)
theorem oRun_inv {rd : (Nat → Int32) → Nat → Bool} {c : Nat} : ∀ (n : Nat) (s : oS), s.2.2 = cntP s.1 c → (oRun rd c n s).2.2 = cntP (oRun rd c n s).1 c
  | 0, s, h => h
  | n + 1, s, h => by
    unfold oRun
    split
    · exact oRun_inv n _ (oRound_inv h)
    · exact h
theorem oFin_inv (c : Nat) (I : Nat → Nat → Int32) : (oFin c I).2.2 = cntP (oFin c I).1 c := oRun_inv c _ (by
  show 0 = cntP (zer c (I 18)) c
  exact (cntP_0 c (fun g h1 h2 => zer_0 c g h1 h2)).symm)
theorem cO_arrange {c : Nat} {fil : Int32} {I : Nat → Nat → Int32} {L : Nat → Nat → Int64} {Q : mx_O → List va_E → Prop} (hc : c ≤ 12) (hsr : ∀ w, w < 27 → I 12 w ≤ 12) (hQ : Q (.inl (some (.int (i01 (decide ((oFin c I).2.2 = c)))))) (oPic I L c (oFin c I))) : mx_W mx_K mT mCl jO_arrange (mR 4 93) 0 [.ref 4, .ref 1, .ref 2, .retAddr 0] [] (pic (nI c) fil I L) Q := by
  have hexit : ∀ (s : oS) (x : Int32), s.2.2 = cntP s.1 c → Q (.inl (some (.int (i01 (decide (s.2.2 = c)))))) (oPic I L c s) → mx_W mx_K mT mCl jO_arrange (mR 4 93) 61 [.ref 4, .ref 1, .ref 2, .int x] [] (oPic I L c s) Q := by
    intro s x hs hq
    have hle := cntP_le s.1 c
    refine mx_aload_n dO_arrange_61 rfl ?_
    refine mx_get 3 2 dO_arrange_62 fgO_19 rfl rfl ?_
    refine mx_aload_n dO_arrange_65 rfl ?_
    refine mx_get 1 0 dO_arrange_66 fgO_23 rfl rfl ?_
    refine mx_icmp_ne 76 dO_arrange_69 rfl (fun h69 => ?_) (fun h69 => ?_)
    · refine mx_iconst (0) dO_arrange_76 (by decide) ?_
      refine mx_iret dO_arrange_77 rfl rfl ?_
      rw [i01_f (decide_eq_false (fun e => h69 (by rw [e])))] at hq
      exact hq
    · refine mx_iconst (1) dO_arrange_72 (by decide) ?_
      refine mx_goto 77 dO_arrange_73 rfl ?_
      refine mx_iret dO_arrange_77 rfl rfl ?_
      rw [i01_t (decide_eq_true ((nI_eq (by omega) (by omega)).mp h69))] at hq
      exact hq
  have hloop2 : ∀ r, r ≤ c → ∀ s : oS, s.2.2 = cntP s.1 c → Q (.inl (some (.int (i01 (decide ((oRun (rdyK (I 10) (I 12) (I 13)) c (c - r) s).2.2 = c)))))) (oPic I L c (oRun (rdyK (I 10) (I 12) (I 13)) c (c - r) s)) → mx_W mx_K mT mCl jO_arrange (mR 4 93) 30 [.ref 4, .ref 1, .ref 2, .int (nI r)] [] (oPic I L c s) Q := by
    refine lp_down ?_ ?_
    · intro s hs hq
      rw [Nat.sub_self] at hq
      refine mx_iload_n dO_arrange_30 rfl ?_
      refine mx_aload_n dO_arrange_31 rfl ?_
      refine mx_get 1 0 dO_arrange_32 fgO_23 rfl rfl ?_
      refine mx_icmp_ge 61 dO_arrange_35 rfl (fun h35 => ?_) (fun h35 => ?_)
      rotate_left
      · exact absurd (nI_le (Nat.le_refl c) (by omega)) h35
      exact hexit s _ hs hq
    · intro r hr ih s hs hq
      have hle := cntP_le s.1 c
      rw [show c - r = (c - (r + 1)) + 1 by omega] at hq
      unfold oRun at hq
      refine mx_iload_n dO_arrange_30 rfl ?_
      refine mx_aload_n dO_arrange_31 rfl ?_
      refine mx_get 1 0 dO_arrange_32 fgO_23 rfl rfl ?_
      refine mx_icmp_ge 61 dO_arrange_35 rfl (fun h35 => ?_) (fun h35 => ?_)
      · exact absurd h35 (nI_ge hr (by omega))
      refine mx_aload_n dO_arrange_38 rfl ?_
      refine mx_get 3 2 dO_arrange_39 fgO_19 rfl rfl ?_
      refine mx_aload_n dO_arrange_42 rfl ?_
      refine mx_get 1 0 dO_arrange_43 fgO_23 rfl rfl ?_
      refine mx_icmp_ge 61 dO_arrange_46 rfl (fun h46 => ?_) (fun h46 => ?_)
      · rw [if_neg (fun e => (nI_ge e (by omega)) h46)] at hq
        exact hexit s _ hs hq
      · refine mx_aload_n dO_arrange_49 rfl ?_
        refine mx_aload_n dO_arrange_50 rfl ?_
        refine mx_aload_n dO_arrange_51 rfl ?_
        refine mx_V1 (R' := (mR 3 70)) [_, _] _ dO_arrange_52 rfl mT_G jO_placeReady_ok jO_placeReady_v lkO_28 ⟨rfl, rfl, Nat.le_of_ble_eq_true rfl, Nat.le_of_ble_eq_true rfl⟩ rfl rfl (Nat.le_of_ble_eq_true rfl) (Nat.le_of_ble_eq_true rfl) rfl rfl rfl (fun Qc qc => cO_placeReady hc hsr hs qc) ?_
        rw [if_pos (by
          have : ¬ c ≤ s.2.2 := fun e => h46 (nI_le e (by omega))
          omega)] at hq
        refine mx_iinc dO_arrange_55 rfl (mx_inc _) (Nat.le_of_ble_eq_true rfl) rfl ?_
        refine mx_goto 30 dO_arrange_58 rfl ?_
        exact ih _ (oRound_inv hs) hq
  have hloop1 : ∀ i, i ≤ c → mx_W mx_K mT mCl jO_arrange (mR 4 93) 7 [.ref 4, .ref 1, .ref 2, .int (nI (i + 1))] [] (pic (nI c) 0 (upI I 18 (lp (fun j P => upd P (j + 1) 0) i (I 18))) L) Q := by
    refine lp_down ?_ ?_
    · refine mx_iload_n dO_arrange_7 rfl ?_
      refine mx_aload_n dO_arrange_8 rfl ?_
      refine mx_get 1 0 dO_arrange_9 fgO_23 rfl rfl ?_
      refine mx_icmp_gt 28 dO_arrange_12 rfl (fun h12 => ?_) (fun h12 => ?_)
      rotate_left
      · exact absurd (nI_lt (Nat.lt_succ_self c) (by omega)) h12
      refine mx_iconst (0) dO_arrange_28 (by decide) ?_
      refine mx_istore_n dO_arrange_29 (Nat.le_of_ble_eq_true rfl) rfl ?_
      refine mx_eqs rfl rfl rfl ?_ (hloop2 0 (Nat.zero_le _) (zer c (I 18), I 17, 0) (cntP_0 c (fun g h1 h2 => zer_0 c g h1 h2)).symm hQ)
      show _ = pic (nI c) (nI 0) (upI (upI I 17 (I 17)) 18 (zer c (I 18))) L
      rw [upI_own]
      rfl
    · intro i hi ih
      refine mx_iload_n dO_arrange_7 rfl ?_
      refine mx_aload_n dO_arrange_8 rfl ?_
      refine mx_get 1 0 dO_arrange_9 fgO_23 rfl rfl ?_
      refine mx_icmp_gt 28 dO_arrange_12 rfl (fun h12 => ?_) (fun h12 => ?_)
      · exact absurd h12 (nI_nlt (by omega) (by omega))
      refine mx_aload_n dO_arrange_15 rfl ?_
      refine mx_get 3 1 dO_arrange_16 fgO_15 rfl rfl ?_
      refine mx_iload_n dO_arrange_19 rfl ?_
      refine mx_iconst (0) dO_arrange_20 (by decide) ?_
      refine mx_zast dO_arrange_21 rfl (vp_in_nI (by omega) (by decide)) ?_
      rw [nI_clamp (by omega)]
      refine mx_iinc dO_arrange_22 rfl (mx_inc _) (Nat.le_of_ble_eq_true rfl) rfl ?_
      refine mx_goto 7 dO_arrange_25 rfl ?_
      refine mx_eqs rfl rfl rfl ?_ ih
      show (pic (nI c) 0 (upI I 18 (lp (fun j P => upd P (j + 1) 0) i (I 18))) L).set 18 (eZ 13 (upd (lp (fun j P => upd P (j + 1) 0) i (I 18)) (i + 1) 0)) = _
      rw [pic_18, upI_upI]
      rfl
  refine mx_aload_n dO_arrange_0 rfl ?_
  refine mx_iconst (0) dO_arrange_1 (by decide) ?_
  refine mx_put 3 2 (.int) dO_arrange_2 fpO_19 rfl (Nat.le_of_ble_eq_true rfl) rfl rfl ?_
  refine mx_iconst (1) dO_arrange_5 (by decide) ?_
  refine mx_istore_n dO_arrange_6 (Nat.le_of_ble_eq_true rfl) rfl ?_
  refine mx_eqs rfl rfl rfl ?_ (hloop1 0 (Nat.zero_le _))
  show (pic (nI c) fil I L).set 4 (.inr (3, [.ref 17, .ref 18, .int 0])) = pic (nI c) 0 (upI I 18 (I 18)) L
  rw [pic_fil, upI_own]
/-- the circuit is sound -/
def sndB (c : Nat) (I : Nat → Nat → Int32) : Bool := isCompl c (I 10) (I 12) && decide ((oFin c I).2.2 = c)
def sndH (c : Nat) (fil : Int32) (I : Nat → Nat → Int32) (L : Nat → Nat → Int64) : List va_E := if isCompl c (I 10) (I 12) = true then oPic I L c (oFin c I) else pic (nI c) fil I L
theorem cA_isSound {c : Nat} {fil : Int32} {I : Nat → Nat → Int32} {L : Nat → Nat → Int64} {Q : mx_O → List va_E → Prop} (hc : c ≤ 12) (hsr : ∀ w, w < 27 → I 12 w ≤ 12) (hQ : Q (.inl (some (.int (i01 (sndB c I))))) (sndH c fil I L)) : mx_W mx_K mT mCl jA_isSound (mR 5 116) 0 [.ref 0] [] (pic (nI c) fil I L) Q := by
  unfold sndB sndH at hQ
  have ht : ¬ i01 (isCompl c (I 10) (I 12)) = 0 → isCompl c (I 10) (I 12) = true := fun h => by
    cases e : isCompl c (I 10) (I 12) with
    | true => rfl
    | false => exact absurd (i01_f e) h
  have hf : i01 (isCompl c (I 10) (I 12)) = 0 → isCompl c (I 10) (I 12) = false := fun h => by
    cases e : isCompl c (I 10) (I 12) with
    | false => rfl
    | true => rw [i01_t e] at h; exact absurd h (by decide)
  refine mx_aload_n dA_isSound_0 rfl ?_
  refine mx_get 0 0 dA_isSound_1 fgA_12 rfl rfl ?_
  refine mx_V1 (R' := (mR 3 64)) [] _ dA_isSound_4 rfl mT_G jP_isComplete_ok jP_isComplete_v lkA_181 ⟨rfl, rfl, Nat.le_of_ble_eq_true rfl, Nat.le_of_ble_eq_true rfl⟩ rfl rfl (Nat.le_of_ble_eq_true rfl) (Nat.le_of_ble_eq_true rfl) pic_P.1 rfl rfl (fun Qc qc => cP_isComplete pic_P hc qc) ?_
  refine mx_if_eq 32 dA_isSound_7 rfl (fun h7 => ?_) (fun h7 => ?_)
  · refine mx_iconst (0) dA_isSound_32 (by decide) ?_
    refine mx_iret dA_isSound_33 rfl rfl ?_
    rw [hf h7] at hQ
    exact hQ
  · refine mx_aload_n dA_isSound_10 rfl ?_
    refine mx_get 0 3 dA_isSound_11 fgA_29 rfl rfl ?_
    refine mx_aload_n dA_isSound_14 rfl ?_
    refine mx_get 0 0 dA_isSound_15 fgA_12 rfl rfl ?_
    refine mx_aload_n dA_isSound_18 rfl ?_
    refine mx_get 0 1 dA_isSound_19 fgA_19 rfl rfl ?_
    refine mx_V1 (R' := (mR 4 93)) [_, _] _ dA_isSound_22 rfl mT_G jO_arrange_ok jO_arrange_v lkA_184 ⟨rfl, rfl, Nat.le_of_ble_eq_true rfl, Nat.le_of_ble_eq_true rfl⟩ rfl rfl (Nat.le_of_ble_eq_true rfl) (Nat.le_of_ble_eq_true rfl) rfl rfl rfl (fun Qc qc => cO_arrange hc hsr qc) ?_
    refine mx_if_eq 32 dA_isSound_25 rfl (fun h25 => ?_) (fun h25 => ?_)
    · refine mx_iconst (0) dA_isSound_32 (by decide) ?_
      refine mx_iret dA_isSound_33 rfl rfl ?_
      rw [ht h7] at hQ
      cases e : decide ((oFin c I).2.2 = c) with
      | true => rw [i01_t e] at h25; exact absurd h25 (by decide)
      | false => rw [e] at hQ; exact hQ
    · refine mx_iconst (1) dA_isSound_28 (by decide) ?_
      refine mx_goto 33 dA_isSound_29 rfl ?_
      refine mx_iret dA_isSound_33 rfl rfl ?_
      rw [ht h7] at hQ
      cases e : decide ((oFin c I).2.2 = c) with
      | false => exact absurd (i01_f e) h25
      | true => rw [e] at hQ; exact hQ
end
section
/-! Paths. -/
theorem eg_at {o u : Nat} (h : u < 13) : (fun i => if i < 13 then some (o + i) else none) (nI u).toNatClampNeg = some (o + u) := by
  show (if (nI u).toNatClampNeg < 13 then some (o + (nI u).toNatClampNeg) else none) = _
  rw [nI_clamp (by omega), if_pos h]
def hPut (I : Nat → Nat → Int32) (u v : Nat) (r t : Int32) : Nat → Nat → Int32 := upI (upI I (26 + u) (upd (I (26 + u)) v r)) (39 + u) (upd (I (39 + u)) v t)
def hOffer (I : Nat → Nat → Int32) (u v : Nat) (r t : Int32) : Nat → Nat → Int32 := if I (26 + u) v = -1 then hPut I u v r t else if r < I (26 + u) v then hPut I u v r t else if ¬ r = I (26 + u) v then I else if t ≤ I (39 + u) v then I else hPut I u v r t
theorem cH_offer {cnt : Int32} {fil : Int32} {I : Nat → Nat → Int32} {L : Nat → Nat → Int64} {Q : mx_O → List va_E → Prop} {u v : Nat} {r t : Int32} (hu : u < 13) (hv : v < 13) (hQ : Q (.inl none) (pic cnt fil (hOffer I u v r t) L)) : mx_W mx_K mT mCl jH_offer (mR 0 0) 0 [.ref 5, .int (nI u), .int (nI v), .int r, .int t, .retAddr 0] [] (pic cnt fil I L) Q := by
  have hset : ∀ x, Q (.inl none) (pic cnt fil (hPut I u v r t) L) → mx_W mx_K mT mCl jH_offer (mR 0 0) 41 [.ref 5, .int (nI u), .int (nI v), .int r, .int t, .int x] [] (pic cnt fil I L) Q := by
    intro x hq
    refine mx_aload_n dH_offer_41 rfl ?_
    refine mx_get 4 0 dH_offer_42 fgH_11 rfl rfl ?_
    refine mx_iload_n dH_offer_45 rfl ?_
    refine mx_aald dH_offer_46 rfl (vp_in_nI hu (by decide)) (eg_at hu) ?_
    refine mx_iload_n dH_offer_47 rfl ?_
    refine mx_iload_n dH_offer_48 rfl ?_
    refine mx_iast dH_offer_49 (pic_row (by omega) (by omega)) (vp_in_nI hv (by decide)) ?_
    rw [nI_clamp (by omega)]
    refine mx_eqs rfl rfl rfl (pic_srow (by omega) (by omega) _) ?_
    refine mx_aload_n dH_offer_50 rfl ?_
    refine mx_get 4 1 dH_offer_51 fgH_16 rfl rfl ?_
    refine mx_iload_n dH_offer_54 rfl ?_
    refine mx_aald dH_offer_55 rfl (vp_in_nI hu (by decide)) (eg_at hu) ?_
    refine mx_iload_n dH_offer_56 rfl ?_
    refine mx_iload dH_offer_57 rfl ?_
    refine mx_iast dH_offer_59 (pic_row (by omega) (by omega)) (vp_in_nI hv (by decide)) ?_
    refine mx_vret dH_offer_60 rfl ?_
    rw [nI_clamp (by omega), pic_srow (by omega) (by omega), upI_ne _ _ (by omega)]
    exact hq
  refine mx_aload_n dH_offer_0 rfl ?_
  refine mx_get 4 0 dH_offer_1 fgH_11 rfl rfl ?_
  refine mx_iload_n dH_offer_4 rfl ?_
  refine mx_aald dH_offer_5 rfl (vp_in_nI hu (by decide)) (eg_at hu) ?_
  refine mx_iload_n dH_offer_6 rfl ?_
  refine mx_iald dH_offer_7 (pic_row (by omega) (by omega)) (vp_in_nI hv (by decide)) ?_
  rw [nI_clamp (by omega)]
  refine mx_istore dH_offer_8 (Nat.le_of_ble_eq_true rfl) rfl ?_
  refine mx_iload dH_offer_10 rfl ?_
  refine mx_iconst (-1) dH_offer_12 (by decide) ?_
  refine mx_icmp_eq 41 dH_offer_13 rfl (fun h13 => ?_) (fun h13 => ?_)
  · have e : hOffer I u v r t = hPut I u v r t := by
      unfold hOffer
      (repeat' split) <;> first | rfl | contradiction
    rw [e] at hQ
    exact hset _ hQ
  · refine mx_iload_n dH_offer_16 rfl ?_
    refine mx_iload dH_offer_17 rfl ?_
    refine mx_icmp_lt 41 dH_offer_19 rfl (fun h19 => ?_) (fun h19 => ?_)
    · have e : hOffer I u v r t = hPut I u v r t := by
        unfold hOffer
        (repeat' split) <;> first | rfl | contradiction
      rw [e] at hQ
      exact hset _ hQ
    · refine mx_iload_n dH_offer_22 rfl ?_
      refine mx_iload dH_offer_23 rfl ?_
      refine mx_icmp_ne 60 dH_offer_25 rfl (fun h25 => ?_) (fun h25 => ?_)
      · refine mx_vret dH_offer_60 rfl ?_
        have e : hOffer I u v r t = I := by
          unfold hOffer
          (repeat' split) <;> first | rfl | contradiction
        rw [e] at hQ
        exact hQ
      · refine mx_iload dH_offer_28 rfl ?_
        refine mx_aload_n dH_offer_30 rfl ?_
        refine mx_get 4 1 dH_offer_31 fgH_16 rfl rfl ?_
        refine mx_iload_n dH_offer_34 rfl ?_
        refine mx_aald dH_offer_35 rfl (vp_in_nI hu (by decide)) (eg_at hu) ?_
        refine mx_iload_n dH_offer_36 rfl ?_
        refine mx_iald dH_offer_37 (pic_row (by omega) (by omega)) (vp_in_nI hv (by decide)) ?_
        rw [nI_clamp (by omega)]
        refine mx_icmp_le 60 dH_offer_38 rfl (fun h38 => ?_) (fun h38 => ?_)
        · refine mx_vret dH_offer_60 rfl ?_
          have e : hOffer I u v r t = I := by
            unfold hOffer
            (repeat' split) <;> first | rfl | contradiction
          rw [e] at hQ
          exact hQ
        · have e : hOffer I u v r t = hPut I u v r t := by
            unfold hOffer
            (repeat' split) <;> first | rfl | contradiction
          rw [e] at hQ
          exact hset _ hQ
def gbf (w : Nat) : Nat := if 24 ≤ w then 0 else w / 2 + 1
theorem gbf_nat {w : Nat} (h : w < 100) : qP_gateBefore (nI w) = nI (gbf w) := by
  unfold qP_gateBefore gbf
  rw [show (24 : Int32) = nI 24 from rfl]
  by_cases e : 24 ≤ w
  · rw [if_pos e, if_pos (nI_le (a := 24) e (by omega))]; rfl
  · rw [if_neg e, if_neg (nI_ge (b := 24) (by omega) (by decide)), show (2 : Int32) = nI 2 from rfl, pk_div (by omega) (by decide) (by decide), nI_1]
theorem gbf_le {w : Nat} (h : w < 27) : gbf w ≤ 12 := by unfold gbf; split <;> omega
def hWire (w : Nat) (I : Nat → Nat → Int32) : Nat → Nat → Int32 := if bh (I 12) w = 0 then I else if gbf w = 0 then I else hOffer I (bh (I 12) w).toNatClampNeg (gbf w) (I 13 w) (I 11 (bh (I 12) w).toNatClampNeg + I 11 (gbf w))
theorem cH_offerWire {cnt : Int32} {fil : Int32} {I : Nat → Nat → Int32} {L : Nat → Nat → Int64} {Q : mx_O → List va_E → Prop} {w : Nat} (hw : w < 27) (hsr : I 12 w ≤ 12) (hQ : Q (.inl none) (pic cnt fil (hWire w I) L)) : mx_W mx_K mT mCl jH_offerWire (mR 2 45) 0 [.ref 5, .ref 1, .ref 2, .int (nI w), .retAddr 0, .retAddr 0] [] (pic cnt fil I L) Q := by
  obtain ⟨u, hu, eu⟩ := vp_in_of (bh_in hsr) (by decide)
  have hv := gbf_le hw
  have hcl : (bh (I 12) w).toNatClampNeg = u := by rw [eu, nI_clamp (by omega)]
  have hwi : vp_in (nI w) 27 := vp_in_nI hw (by decide)
  unfold hWire at hQ
  rw [hcl] at hQ
  refine mx_aload_n dH_offerWire_0 rfl ?_
  refine mx_iload_n dH_offerWire_1 rfl ?_
  refine mx_V1 (R' := (mR 1 24)) [_] _ dH_offerWire_2 rfl mT_G jP_gateBehind_ok jP_gateBehind_v lkH_47 ⟨rfl, rfl, Nat.le_of_ble_eq_true rfl, Nat.le_of_ble_eq_true rfl⟩ rfl rfl (Nat.le_of_ble_eq_true rfl) (Nat.le_of_ble_eq_true rfl) rfl rfl rfl (fun Qc qc => cP_gateBehind pic_P hwi qc) ?_
  rw [gb_nat (by omega), eu]
  refine mx_istore dH_offerWire_5 (Nat.le_of_ble_eq_true rfl) rfl ?_
  refine mx_aload_n dH_offerWire_7 rfl ?_
  refine mx_iload_n dH_offerWire_8 rfl ?_
  refine mx_V1 (R' := (mR 0 0)) [_] _ dH_offerWire_9 rfl mT_G jP_gateBefore_ok jP_gateBefore_v lkH_51 ⟨rfl, rfl, Nat.le_of_ble_eq_true rfl, Nat.le_of_ble_eq_true rfl⟩ rfl rfl (Nat.le_of_ble_eq_true rfl) (Nat.le_of_ble_eq_true rfl) rfl rfl rfl (fun Qc qc => cP_gateBefore qc) ?_
  rw [gbf_nat (by omega)]
  refine mx_istore dH_offerWire_12 (Nat.le_of_ble_eq_true rfl) rfl ?_
  refine mx_iload dH_offerWire_14 rfl ?_
  refine mx_if_eq 52 dH_offerWire_16 rfl (fun h16 => ?_) (fun h16 => ?_)
  · refine mx_vret dH_offerWire_52 rfl ?_
    rw [if_pos (by rw [eu]; exact h16)] at hQ
    exact hQ
  · refine mx_iload dH_offerWire_19 rfl ?_
    refine mx_if_eq 52 dH_offerWire_21 rfl (fun h21 => ?_) (fun h21 => ?_)
    · refine mx_vret dH_offerWire_52 rfl ?_
      rw [if_neg (by rw [eu]; exact h16), if_pos ((nI_eq (b := 0) (by omega) (by decide)).mp h21)] at hQ
      exact hQ
    · refine mx_aload_n dH_offerWire_24 rfl ?_
      refine mx_iload dH_offerWire_25 rfl ?_
      refine mx_iload dH_offerWire_27 rfl ?_
      refine mx_aload_n dH_offerWire_29 rfl ?_
      refine mx_iload_n dH_offerWire_30 rfl ?_
      refine mx_V1 (R' := (mR 0 0)) [_] _ dH_offerWire_31 rfl mT_G jB_length_ok jB_length_v lkH_54 ⟨rfl, rfl, Nat.le_of_ble_eq_true rfl, Nat.le_of_ble_eq_true rfl⟩ rfl rfl (Nat.le_of_ble_eq_true rfl) (Nat.le_of_ble_eq_true rfl) rfl rfl rfl (fun Qc qc => cB_length pic_B hwi qc) ?_
      rw [nI_clamp (by omega)]
      refine mx_aload_n dH_offerWire_34 rfl ?_
      refine mx_get 1 2 dH_offerWire_35 fgH_25 rfl rfl ?_
      refine mx_iload dH_offerWire_38 rfl ?_
      refine mx_iald dH_offerWire_40 rfl (vp_in_nI hu (by decide)) ?_
      rw [nI_clamp (by omega)]
      refine mx_aload_n dH_offerWire_41 rfl ?_
      refine mx_get 1 2 dH_offerWire_42 fgH_25 rfl rfl ?_
      refine mx_iload dH_offerWire_45 rfl ?_
      refine mx_iald dH_offerWire_47 rfl (vp_in_nI (by omega) (by decide)) ?_
      rw [nI_clamp (by omega)]
      refine mx_iadd dH_offerWire_48 ?_
      refine mx_V1 (R' := (mR 0 0)) [_, _, _, _] _ dH_offerWire_49 rfl mT_G jH_offer_ok jH_offer_v lkH_29 ⟨rfl, rfl, Nat.le_of_ble_eq_true rfl, Nat.le_of_ble_eq_true rfl⟩ rfl rfl (Nat.le_of_ble_eq_true rfl) (Nat.le_of_ble_eq_true rfl) rfl rfl rfl (fun Qc qc => cH_offer hu (by omega) qc) ?_
      refine mx_vret dH_offerWire_52 rfl ?_
      rw [if_neg (by rw [eu]; exact h16), if_neg (fun e => h21 (by rw [e]; rfl))] at hQ
      exact hQ
def hOv (I : Nat → Nat → Int32) (u m v : Nat) : Nat → Nat → Int32 := if I (26 + m) v = -1 then I else hOffer I u v (I (26 + u) m + I (26 + m) v) (I (39 + u) m + I (39 + m) v - I 11 m)
def hOver (c : Nat) (u m : Nat) (I : Nat → Nat → Int32) : Nat → Nat → Int32 := if ¬ I (26 + u) m = -1 then lp (fun i I => hOv I u m (i + 1)) c I else I
theorem cH_offerOver {c : Nat} {fil : Int32} {I : Nat → Nat → Int32} {L : Nat → Nat → Int64} {Q : mx_O → List va_E → Prop} (hc : c ≤ 12) {u m : Nat} (hu : u < 13) (hm : m < 13) (hQ : Q (.inl none) (pic (nI c) fil (hOver c u m I) L)) : mx_W mx_K mT mCl jH_offerOver (mR 1 25) 0 [.ref 5, .ref 1, .int (nI u), .int (nI m), .retAddr 0, .retAddr 0] [] (pic (nI c) fil I L) Q := by
  unfold hOver at hQ
  have hloop : ∀ J0 : Nat → Nat → Int32, Q (.inl none) (pic (nI c) fil (lp (fun i I => hOv I u m (i + 1)) c J0) L) → ∀ i, i ≤ c → mx_W mx_K mT mCl jH_offerOver (mR 1 25) 16 [.ref 5, .ref 1, .int (nI u), .int (nI m), .int (nI (i + 1)), .retAddr 0] [] (pic (nI c) fil (lp (fun i I => hOv I u m (i + 1)) i J0) L) Q := by
    intro J0 hq
    refine lp_down ?_ ?_
    · refine mx_iload dH_offerOver_16 rfl ?_
      refine mx_aload_n dH_offerOver_18 rfl ?_
      refine mx_get 1 0 dH_offerOver_19 fgH_19 rfl rfl ?_
      refine mx_icmp_gt 98 dH_offerOver_22 rfl (fun h22 => ?_) (fun h22 => ?_)
      rotate_left
      · exact absurd (nI_lt (Nat.lt_succ_self c) (by omega)) h22
      refine mx_vret dH_offerOver_98 rfl ?_
      exact hq
    · intro i hi ih
      have ih : mx_W mx_K mT mCl jH_offerOver (mR 1 25) 16 [.ref 5, .ref 1, .int (nI u), .int (nI m), .int (nI (i + 1 + 1)), .retAddr 0] [] (pic (nI c) fil (hOv (lp (fun i I => hOv I u m (i + 1)) i J0) u m (i + 1)) L) Q := ih
      generalize lp (fun i I => hOv I u m (i + 1)) i J0 = G at ih ⊢
      unfold hOv at ih
      refine mx_iload dH_offerOver_16 rfl ?_
      refine mx_aload_n dH_offerOver_18 rfl ?_
      refine mx_get 1 0 dH_offerOver_19 fgH_19 rfl rfl ?_
      refine mx_icmp_gt 98 dH_offerOver_22 rfl (fun h22 => ?_) (fun h22 => ?_)
      · exact absurd h22 (nI_nlt (by omega) (by omega))
      refine mx_aload_n dH_offerOver_25 rfl ?_
      refine mx_get 4 0 dH_offerOver_26 fgH_11 rfl rfl ?_
      refine mx_iload_n dH_offerOver_29 rfl ?_
      refine mx_aald dH_offerOver_30 rfl (vp_in_nI hm (by decide)) (eg_at hm) ?_
      refine mx_iload dH_offerOver_31 rfl ?_
      refine mx_iald dH_offerOver_33 (pic_row (by omega) (by omega)) (vp_in_nI (by omega) (by decide)) ?_
      rw [nI_clamp (by omega)]
      refine mx_iconst (-1) dH_offerOver_34 (by decide) ?_
      refine mx_icmp_eq 92 dH_offerOver_35 rfl (fun h35 => ?_) (fun h35 => ?_)
      · first | rw [if_pos h35] at ih | rw [if_neg h35] at ih
        refine mx_iinc dH_offerOver_92 rfl (mx_inc _) (Nat.le_of_ble_eq_true rfl) rfl ?_
        refine mx_goto 16 dH_offerOver_95 rfl ?_
        refine mx_drop 5 ?_
        exact ih
      · refine mx_aload_n dH_offerOver_38 rfl ?_
        refine mx_get 4 1 dH_offerOver_39 fgH_16 rfl rfl ?_
        refine mx_iload_n dH_offerOver_42 rfl ?_
        refine mx_aald dH_offerOver_43 rfl (vp_in_nI hu (by decide)) (eg_at hu) ?_
        refine mx_iload_n dH_offerOver_44 rfl ?_
        refine mx_iald dH_offerOver_45 (pic_row (by omega) (by omega)) (vp_in_nI hm (by decide)) ?_
        rw [nI_clamp (by omega)]
        refine mx_aload_n dH_offerOver_46 rfl ?_
        refine mx_get 4 1 dH_offerOver_47 fgH_16 rfl rfl ?_
        refine mx_iload_n dH_offerOver_50 rfl ?_
        refine mx_aald dH_offerOver_51 rfl (vp_in_nI hm (by decide)) (eg_at hm) ?_
        refine mx_iload dH_offerOver_52 rfl ?_
        refine mx_iald dH_offerOver_54 (pic_row (by omega) (by omega)) (vp_in_nI (by omega) (by decide)) ?_
        rw [nI_clamp (by omega)]
        refine mx_iadd dH_offerOver_55 ?_
        refine mx_aload_n dH_offerOver_56 rfl ?_
        refine mx_get 1 2 dH_offerOver_57 fgH_25 rfl rfl ?_
        refine mx_iload_n dH_offerOver_60 rfl ?_
        refine mx_iald dH_offerOver_61 rfl (vp_in_nI hm (by decide)) ?_
        rw [nI_clamp (by omega)]
        refine mx_isub dH_offerOver_62 ?_
        refine mx_istore dH_offerOver_63 (Nat.le_of_ble_eq_true rfl) rfl ?_
        refine mx_aload_n dH_offerOver_65 rfl ?_
        refine mx_iload_n dH_offerOver_66 rfl ?_
        refine mx_iload dH_offerOver_67 rfl ?_
        refine mx_aload_n dH_offerOver_69 rfl ?_
        refine mx_get 4 0 dH_offerOver_70 fgH_11 rfl rfl ?_
        refine mx_iload_n dH_offerOver_73 rfl ?_
        refine mx_aald dH_offerOver_74 rfl (vp_in_nI hu (by decide)) (eg_at hu) ?_
        refine mx_iload_n dH_offerOver_75 rfl ?_
        refine mx_iald dH_offerOver_76 (pic_row (by omega) (by omega)) (vp_in_nI hm (by decide)) ?_
        rw [nI_clamp (by omega)]
        refine mx_aload_n dH_offerOver_77 rfl ?_
        refine mx_get 4 0 dH_offerOver_78 fgH_11 rfl rfl ?_
        refine mx_iload_n dH_offerOver_81 rfl ?_
        refine mx_aald dH_offerOver_82 rfl (vp_in_nI hm (by decide)) (eg_at hm) ?_
        refine mx_iload dH_offerOver_83 rfl ?_
        refine mx_iald dH_offerOver_85 (pic_row (by omega) (by omega)) (vp_in_nI (by omega) (by decide)) ?_
        rw [nI_clamp (by omega)]
        refine mx_iadd dH_offerOver_86 ?_
        refine mx_iload dH_offerOver_87 rfl ?_
        refine mx_V1 (R' := (mR 0 0)) [_, _, _, _] _ dH_offerOver_89 rfl mT_G jH_offer_ok jH_offer_v lkH_29 ⟨rfl, rfl, Nat.le_of_ble_eq_true rfl, Nat.le_of_ble_eq_true rfl⟩ rfl rfl (Nat.le_of_ble_eq_true rfl) (Nat.le_of_ble_eq_true rfl) rfl rfl rfl (fun Qc qc => cH_offer hu (by omega) qc) ?_
        first | rw [if_pos h35] at ih | rw [if_neg h35] at ih
        refine mx_iinc dH_offerOver_92 rfl (mx_inc _) (Nat.le_of_ble_eq_true rfl) rfl ?_
        refine mx_goto 16 dH_offerOver_95 rfl ?_
        refine mx_drop 5 ?_
        exact ih
  refine mx_aload_n dH_offerOver_0 rfl ?_
  refine mx_get 4 0 dH_offerOver_1 fgH_11 rfl rfl ?_
  refine mx_iload_n dH_offerOver_4 rfl ?_
  refine mx_aald dH_offerOver_5 rfl (vp_in_nI hu (by decide)) (eg_at hu) ?_
  refine mx_iload_n dH_offerOver_6 rfl ?_
  refine mx_iald dH_offerOver_7 (pic_row (by omega) (by omega)) (vp_in_nI hm (by decide)) ?_
  rw [nI_clamp (by omega)]
  refine mx_iconst (-1) dH_offerOver_8 (by decide) ?_
  refine mx_icmp_ne 13 dH_offerOver_9 rfl (fun h9 => ?_) (fun h9 => ?_)
  · refine mx_iconst (1) dH_offerOver_13 (by decide) ?_
    refine mx_istore dH_offerOver_14 (Nat.le_of_ble_eq_true rfl) rfl ?_
    rw [if_pos h9] at hQ
    exact hloop I hQ 0 (Nat.zero_le _)
  · refine mx_vret dH_offerOver_12 rfl ?_
    rw [if_neg (fun e => e h9)] at hQ
    exact hQ
theorem lp_zero {α : Type} (f : Nat → α → α) (s : α) : lp f 0 s = s := rfl
theorem lp_keep {α : Type} {f : Nat → α → α} {P : α → Prop} {s : α} (h0 : P s) : ∀ n, (∀ i t, i < n → P t → P (f i t)) → P (lp f n s)
  | 0, _ => h0
  | n + 1, hs => hs n _ (Nat.lt_succ_self n) (lp_keep h0 n (fun i t hi => hs i t (by omega)))
theorem hPut_low {I : Nat → Nat → Int32} {u v k : Nat} {r t : Int32} (h : k < 26) : hPut I u v r t k = I k := by
  unfold hPut
  rw [upI_ne _ _ (by omega), upI_ne _ _ (by omega)]
theorem hOffer_low {I : Nat → Nat → Int32} {u v k : Nat} {r t : Int32} (h : k < 26) : hOffer I u v r t k = I k := by
  unfold hOffer
  (repeat' split) <;> first | rfl | exact hPut_low h
theorem hWire_low {I : Nat → Nat → Int32} {w k : Nat} (h : k < 26) : hWire w I k = I k := by
  unfold hWire
  (repeat' split) <;> first | rfl | exact hOffer_low h
theorem hOver_low {I : Nat → Nat → Int32} {c u m k : Nat} (h : k < 26) : hOver c u m I k = I k := by
  unfold hOver
  split
  · refine lp_keep (P := fun (G : Nat → Nat → Int32) => G k = I k) rfl c (fun i t _ ht => ?_)
    show hOv t u m (i + 1) k = I k
    unfold hOv
    split
    · exact ht
    · rw [hOffer_low h]; exact ht
  · rfl
def hI1 (c u : Nat) (G : Nat → Nat → Int32) : Nat → Nat → Int32 := lp (fun i I => hPut I u (i + 1) (-1) (-1)) c G
def hI2 (c u : Nat) (G : Nat → Nat → Int32) : Nat → Nat → Int32 := hOffer (hI1 c u G) u u 0 (hI1 c u G 11 u)
theorem hI1_low {G : Nat → Nat → Int32} {c u k : Nat} (h : k < 26) : hI1 c u G k = G k := lp_keep (P := fun (I : Nat → Nat → Int32) => I k = G k) rfl c (fun i t _ ht => by rw [hPut_low h]; exact ht)
theorem hI2_low {G : Nat → Nat → Int32} {c u k : Nat} (h : k < 26) : hI2 c u G k = G k := by unfold hI2; rw [hOffer_low h, hI1_low h]
def hM1 (c : Nat) (I : Nat → Nat → Int32) : Nat → Nat → Int32 := lp (fun i G => hI2 c (i + 1) G) c I
def hM2 (c : Nat) (I : Nat → Nat → Int32) : Nat → Nat → Int32 := lp hWire 27 (hM1 c I)
def hM3 (c m : Nat) (I : Nat → Nat → Int32) : Nat → Nat → Int32 := lp (fun i G => hOver c (i + 1) m G) c I
/-- what Paths.measure leaves -/
def hMeas (c : Nat) (I : Nat → Nat → Int32) : Nat → Nat → Int32 := lp (fun m G => hM3 c (m + 1) G) c (hM2 c I)
theorem hM1_low {I : Nat → Nat → Int32} {c k : Nat} (h : k < 26) : hM1 c I k = I k := lp_keep (P := fun (G : Nat → Nat → Int32) => G k = I k) rfl c (fun i t _ ht => by rw [hI2_low h]; exact ht)
theorem hM2_low {I : Nat → Nat → Int32} {c k : Nat} (h : k < 26) : hM2 c I k = I k := by
  unfold hM2
  exact lp_keep (P := fun (G : Nat → Nat → Int32) => G k = I k) (f := hWire) (s := hM1 c I) (hM1_low h) 27 (fun i t _ ht => by rw [hWire_low h]; exact ht)
theorem hM3_low {I : Nat → Nat → Int32} {c m k : Nat} (h : k < 26) : hM3 c m I k = I k := lp_keep (P := fun (G : Nat → Nat → Int32) => G k = I k) rfl c (fun i t _ ht => by rw [hOver_low h]; exact ht)
theorem hMeas_low {I : Nat → Nat → Int32} {c k : Nat} (h : k < 26) : hMeas c I k = I k := lp_keep (P := fun (G : Nat → Nat → Int32) => G k = I k) (hM2_low h) c (fun i t _ ht => by rw [hM3_low h]; exact ht)
theorem cH_measure {c : Nat} {fil : Int32} {I : Nat → Nat → Int32} {L : Nat → Nat → Int64} {Q : mx_O → List va_E → Prop} (hc : c ≤ 12) (hsr : ∀ w, w < 27 → I 12 w ≤ 12) (hQ : Q (.inl none) (pic (nI c) fil (hMeas c I) L)) : mx_W mx_K mT mCl jH_measure (mR 3 70) 0 [.ref 5, .ref 1, .ref 2, .retAddr 0, .retAddr 0] [] (pic (nI c) fil I L) Q := by
  have l3i : ∀ (m : Nat) (G : Nat → Nat → Int32), m < c → mx_W mx_K mT mCl jH_measure (mR 3 70) 124 [.ref 5, .ref 1, .ref 2, .int (nI (m + 1)), .int (nI (c + 1))] [] (pic (nI c) fil (hM3 c (m + 1) G) L) Q → ∀ i, i ≤ c → mx_W mx_K mT mCl jH_measure (mR 3 70) 101 [.ref 5, .ref 1, .ref 2, .int (nI (m + 1)), .int (nI (i + 1))] [] (pic (nI c) fil (lp (fun i G => hOver c (i + 1) (m + 1) G) i G) L) Q := by
    intro m G hm hk
    refine lp_down ?_ ?_
    · refine mx_iload dH_measure_101 rfl ?_
      refine mx_aload_n dH_measure_103 rfl ?_
      refine mx_get 1 0 dH_measure_104 fgH_19 rfl rfl ?_
      refine mx_icmp_gt 124 dH_measure_107 rfl (fun h107 => ?_) (fun h107 => ?_)
      rotate_left
      · exact absurd (nI_lt (Nat.lt_succ_self c) (by omega)) h107
      exact hk
    · intro i hi ih
      refine mx_iload dH_measure_101 rfl ?_
      refine mx_aload_n dH_measure_103 rfl ?_
      refine mx_get 1 0 dH_measure_104 fgH_19 rfl rfl ?_
      refine mx_icmp_gt 124 dH_measure_107 rfl (fun h107 => ?_) (fun h107 => ?_)
      · exact absurd h107 (nI_nlt (by omega) (by omega))
      refine mx_aload_n dH_measure_110 rfl ?_
      refine mx_aload_n dH_measure_111 rfl ?_
      refine mx_iload dH_measure_112 rfl ?_
      refine mx_iload_n dH_measure_114 rfl ?_
      refine mx_V1 (R' := (mR 1 25)) [_, _, _] _ dH_measure_115 rfl mT_G jH_offerOver_ok jH_offerOver_v lkH_37 ⟨rfl, rfl, Nat.le_of_ble_eq_true rfl, Nat.le_of_ble_eq_true rfl⟩ rfl rfl (Nat.le_of_ble_eq_true rfl) (Nat.le_of_ble_eq_true rfl) rfl rfl rfl (fun Qc qc => cH_offerOver hc (by omega) (by omega) qc) ?_
      refine mx_iinc dH_measure_118 rfl (mx_inc _) (Nat.le_of_ble_eq_true rfl) rfl ?_
      refine mx_goto 101 dH_measure_121 rfl ?_
      exact ih
  have l3 : ∀ i, i ≤ c → mx_W mx_K mT mCl jH_measure (mR 3 70) 90 [.ref 5, .ref 1, .ref 2, .int (nI (i + 1)), .retAddr 0] [] (pic (nI c) fil (lp (fun m G => hM3 c (m + 1) G) i (hM2 c I)) L) Q := by
    refine lp_down ?_ ?_
    · refine mx_iload_n dH_measure_90 rfl ?_
      refine mx_aload_n dH_measure_91 rfl ?_
      refine mx_get 1 0 dH_measure_92 fgH_19 rfl rfl ?_
      refine mx_icmp_gt 130 dH_measure_95 rfl (fun h95 => ?_) (fun h95 => ?_)
      rotate_left
      · exact absurd (nI_lt (Nat.lt_succ_self c) (by omega)) h95
      refine mx_vret dH_measure_130 rfl ?_
      exact hQ
    · intro i hi ih
      refine mx_iload_n dH_measure_90 rfl ?_
      refine mx_aload_n dH_measure_91 rfl ?_
      refine mx_get 1 0 dH_measure_92 fgH_19 rfl rfl ?_
      refine mx_icmp_gt 130 dH_measure_95 rfl (fun h95 => ?_) (fun h95 => ?_)
      · exact absurd h95 (nI_nlt (by omega) (by omega))
      refine mx_iconst (1) dH_measure_98 (by decide) ?_
      refine mx_istore dH_measure_99 (Nat.le_of_ble_eq_true rfl) rfl ?_
      refine l3i i _ hi ?_ 0 (Nat.zero_le _)
      refine mx_iinc dH_measure_124 rfl (mx_inc _) (Nat.le_of_ble_eq_true rfl) rfl ?_
      refine mx_goto 90 dH_measure_127 rfl ?_
      refine mx_drop 4 ?_
      exact ih
  have l2 : ∀ i, i ≤ 27 → mx_W mx_K mT mCl jH_measure (mR 3 70) 69 [.ref 5, .ref 1, .ref 2, .int (nI i), .retAddr 0] [] (pic (nI c) fil (lp hWire i (hM1 c I)) L) Q := by
    refine lp_down ?_ ?_
    · refine mx_iload_n dH_measure_69 rfl ?_
      refine mx_bipush (27) dH_measure_70 (by decide) ?_
      refine mx_icmp_ge 88 dH_measure_72 rfl (fun h72 => ?_) (fun h72 => ?_)
      rotate_left
      · exact absurd (show (27 : Int32) ≤ nI 27 by decide) h72
      refine mx_iconst (1) dH_measure_88 (by decide) ?_
      refine mx_istore_n dH_measure_89 (Nat.le_of_ble_eq_true rfl) rfl ?_
      have l30 := l3 0 (Nat.zero_le _)
      rw [lp_zero] at l30
      unfold hM2 at l30
      exact l30
    · intro i hi ih
      have hlow : (lp hWire i (hM1 c I)) 12 = I 12 := lp_keep (P := fun (G : Nat → Nat → Int32) => G 12 = I 12) (hM1_low (by decide)) i (fun j t _ ht => by rw [hWire_low (by decide)]; exact ht)
      refine mx_iload_n dH_measure_69 rfl ?_
      refine mx_bipush (27) dH_measure_70 (by decide) ?_
      refine mx_icmp_ge 88 dH_measure_72 rfl (fun h72 => ?_) (fun h72 => ?_)
      · exact absurd h72 (nI_ge (b := 27) hi (by decide))
      refine mx_aload_n dH_measure_75 rfl ?_
      refine mx_aload_n dH_measure_76 rfl ?_
      refine mx_aload_n dH_measure_77 rfl ?_
      refine mx_iload_n dH_measure_78 rfl ?_
      refine mx_V1 (R' := (mR 2 45)) [_, _, _] _ dH_measure_79 rfl mT_G jH_offerWire_ok jH_offerWire_v lkH_33 ⟨rfl, rfl, Nat.le_of_ble_eq_true rfl, Nat.le_of_ble_eq_true rfl⟩ rfl rfl (Nat.le_of_ble_eq_true rfl) (Nat.le_of_ble_eq_true rfl) rfl rfl rfl (fun Qc qc => cH_offerWire hi (by rw [hlow]; exact hsr i hi) qc) ?_
      refine mx_iinc dH_measure_82 rfl (mx_inc _) (Nat.le_of_ble_eq_true rfl) rfl ?_
      refine mx_goto 69 dH_measure_85 rfl ?_
      exact ih
  have l1i : ∀ (u : Nat) (G : Nat → Nat → Int32), u < c → mx_W mx_K mT mCl jH_measure (mR 3 70) 48 [.ref 5, .ref 1, .ref 2, .int (nI (u + 1)), .int (nI (c + 1))] [] (pic (nI c) fil (hI1 c (u + 1) G) L) Q → ∀ i, i ≤ c → mx_W mx_K mT mCl jH_measure (mR 3 70) 13 [.ref 5, .ref 1, .ref 2, .int (nI (u + 1)), .int (nI (i + 1))] [] (pic (nI c) fil (lp (fun i I => hPut I (u + 1) (i + 1) (-1) (-1)) i G) L) Q := by
    intro u G hu hk
    have hu : u + 1 < 13 := by omega
    refine lp_down ?_ ?_
    · refine mx_iload dH_measure_13 rfl ?_
      refine mx_aload_n dH_measure_15 rfl ?_
      refine mx_get 1 0 dH_measure_16 fgH_19 rfl rfl ?_
      refine mx_icmp_gt 48 dH_measure_19 rfl (fun h19 => ?_) (fun h19 => ?_)
      rotate_left
      · exact absurd (nI_lt (Nat.lt_succ_self c) (by omega)) h19
      exact hk
    · intro i hi ih
      refine mx_iload dH_measure_13 rfl ?_
      refine mx_aload_n dH_measure_15 rfl ?_
      refine mx_get 1 0 dH_measure_16 fgH_19 rfl rfl ?_
      refine mx_icmp_gt 48 dH_measure_19 rfl (fun h19 => ?_) (fun h19 => ?_)
      · exact absurd h19 (nI_nlt (by omega) (by omega))
      refine mx_aload_n dH_measure_22 rfl ?_
      refine mx_get 4 0 dH_measure_23 fgH_11 rfl rfl ?_
      refine mx_iload_n dH_measure_26 rfl ?_
      refine mx_aald dH_measure_27 rfl (vp_in_nI hu (by decide)) (eg_at hu) ?_
      refine mx_iload dH_measure_28 rfl ?_
      refine mx_iconst (-1) dH_measure_30 (by decide) ?_
      refine mx_iast dH_measure_31 (pic_row (by omega) (by omega)) (vp_in_nI (by omega) (by decide)) ?_
      rw [nI_clamp (by omega)]
      refine mx_eqs rfl rfl rfl (pic_srow (by omega) (by omega) _) ?_
      refine mx_aload_n dH_measure_32 rfl ?_
      refine mx_get 4 1 dH_measure_33 fgH_16 rfl rfl ?_
      refine mx_iload_n dH_measure_36 rfl ?_
      refine mx_aald dH_measure_37 rfl (vp_in_nI hu (by decide)) (eg_at hu) ?_
      refine mx_iload dH_measure_38 rfl ?_
      refine mx_iconst (-1) dH_measure_40 (by decide) ?_
      refine mx_iast dH_measure_41 (pic_row (by omega) (by omega)) (vp_in_nI (by omega) (by decide)) ?_
      rw [nI_clamp (by omega), pic_srow (by omega) (by omega), upI_ne _ _ (by omega)]
      refine mx_iinc dH_measure_42 rfl (mx_inc _) (Nat.le_of_ble_eq_true rfl) rfl ?_
      refine mx_goto 13 dH_measure_45 rfl ?_
      exact ih
  have l1 : ∀ i, i ≤ c → mx_W mx_K mT mCl jH_measure (mR 3 70) 2 [.ref 5, .ref 1, .ref 2, .int (nI (i + 1)), .retAddr 0] [] (pic (nI c) fil (lp (fun i G => hI2 c (i + 1) G) i I) L) Q := by
    refine lp_down ?_ ?_
    · refine mx_iload_n dH_measure_2 rfl ?_
      refine mx_aload_n dH_measure_3 rfl ?_
      refine mx_get 1 0 dH_measure_4 fgH_19 rfl rfl ?_
      refine mx_icmp_gt 67 dH_measure_7 rfl (fun h7 => ?_) (fun h7 => ?_)
      rotate_left
      · exact absurd (nI_lt (Nat.lt_succ_self c) (by omega)) h7
      refine mx_iconst (0) dH_measure_67 (by decide) ?_
      refine mx_istore_n dH_measure_68 (Nat.le_of_ble_eq_true rfl) rfl ?_
      exact l2 0 (Nat.zero_le _)
    · intro i hi ih
      have ih : mx_W mx_K mT mCl jH_measure (mR 3 70) 2 [.ref 5, .ref 1, .ref 2, .int (nI (i + 1 + 1)), .retAddr 0] [] (pic (nI c) fil (hI2 c (i + 1) (lp (fun i G => hI2 c (i + 1) G) i I)) L) Q := ih
      generalize lp (fun i G => hI2 c (i + 1) G) i I = G at ih ⊢
      refine mx_iload_n dH_measure_2 rfl ?_
      refine mx_aload_n dH_measure_3 rfl ?_
      refine mx_get 1 0 dH_measure_4 fgH_19 rfl rfl ?_
      refine mx_icmp_gt 67 dH_measure_7 rfl (fun h7 => ?_) (fun h7 => ?_)
      · exact absurd h7 (nI_nlt (by omega) (by omega))
      refine mx_iconst (1) dH_measure_10 (by decide) ?_
      refine mx_istore dH_measure_11 (Nat.le_of_ble_eq_true rfl) rfl ?_
      refine l1i i G hi ?_ 0 (Nat.zero_le _)
      refine mx_aload_n dH_measure_48 rfl ?_
      refine mx_iload_n dH_measure_49 rfl ?_
      refine mx_iload_n dH_measure_50 rfl ?_
      refine mx_iconst (0) dH_measure_51 (by decide) ?_
      refine mx_aload_n dH_measure_52 rfl ?_
      refine mx_get 1 2 dH_measure_53 fgH_25 rfl rfl ?_
      refine mx_iload_n dH_measure_56 rfl ?_
      refine mx_iald dH_measure_57 rfl (vp_in_nI (by omega) (by decide)) ?_
      rw [nI_clamp (by omega)]
      refine mx_V1 (R' := (mR 0 0)) [_, _, _, _] _ dH_measure_58 rfl mT_G jH_offer_ok jH_offer_v lkH_29 ⟨rfl, rfl, Nat.le_of_ble_eq_true rfl, Nat.le_of_ble_eq_true rfl⟩ rfl rfl (Nat.le_of_ble_eq_true rfl) (Nat.le_of_ble_eq_true rfl) rfl rfl rfl (fun Qc qc => cH_offer (by omega) (by omega) qc) ?_
      refine mx_iinc dH_measure_61 rfl (mx_inc _) (Nat.le_of_ble_eq_true rfl) rfl ?_
      refine mx_goto 2 dH_measure_64 rfl ?_
      refine mx_drop 4 ?_
      exact ih
  refine mx_iconst (1) dH_measure_0 (by decide) ?_
  refine mx_istore_n dH_measure_1 (Nat.le_of_ble_eq_true rfl) rfl ?_
  exact l1 0 (Nat.zero_le _)
def hLu1 (I : Nat → Nat → Int32) (u v : Nat) (x : Int32) : Int32 := if ¬ I (26 + u) v = 0 then x else if x < I (39 + u) v then I (39 + u) v else x
def hLu (c : Nat) (I : Nat → Nat → Int32) : Int32 := lp (fun u x => lp (fun v x => hLu1 I (u + 1) (v + 1) x) c x) c 0
theorem cH_longestUnregistered {c : Nat} {cnt : Int32} {fil : Int32} {I : Nat → Nat → Int32} {L : Nat → Nat → Int64} {Q : mx_O → List va_E → Prop} (hc : c ≤ 12) (hQ : Q (.inl (some (.int (hLu c I)))) (pic cnt fil I L)) : mx_W mx_K mT mCl jH_longestUnregistered (mR 1 24) 0 [.ref 5, .int (nI c), .retAddr 0, .retAddr 0, .retAddr 0] [] (pic cnt fil I L) Q := by
  have li : ∀ (u : Nat) (x : Int32), u < c → mx_W mx_K mT mCl jH_longestUnregistered (mR 1 24) 50 [.ref 5, .int (nI c), .int (lp (fun v x => hLu1 I (u + 1) (v + 1) x) c x), .int (nI (u + 1)), .int (nI (c + 1))] [] (pic cnt fil I L) Q → ∀ i, i ≤ c → mx_W mx_K mT mCl jH_longestUnregistered (mR 1 24) 12 [.ref 5, .int (nI c), .int (lp (fun v x => hLu1 I (u + 1) (v + 1) x) i x), .int (nI (u + 1)), .int (nI (i + 1))] [] (pic cnt fil I L) Q := by
    intro u x hu hk
    have hu : u + 1 < 13 := by omega
    refine lp_down ?_ ?_
    · refine mx_iload dH_longestUnregistered_12 rfl ?_
      refine mx_iload_n dH_longestUnregistered_14 rfl ?_
      refine mx_icmp_gt 50 dH_longestUnregistered_15 rfl (fun h15 => ?_) (fun h15 => ?_)
      rotate_left
      · exact absurd (nI_lt (Nat.lt_succ_self c) (by omega)) h15
      exact hk
    · intro i hi ih
      have ih : mx_W mx_K mT mCl jH_longestUnregistered (mR 1 24) 12 [.ref 5, .int (nI c), .int (hLu1 I (u + 1) (i + 1) (lp (fun v x => hLu1 I (u + 1) (v + 1) x) i x)), .int (nI (u + 1)), .int (nI (i + 1 + 1))] [] (pic cnt fil I L) Q := ih
      generalize lp (fun v x => hLu1 I (u + 1) (v + 1) x) i x = y at ih ⊢
      unfold hLu1 at ih
      refine mx_iload dH_longestUnregistered_12 rfl ?_
      refine mx_iload_n dH_longestUnregistered_14 rfl ?_
      refine mx_icmp_gt 50 dH_longestUnregistered_15 rfl (fun h15 => ?_) (fun h15 => ?_)
      · exact absurd h15 (nI_nlt (by omega) (by omega))
      refine mx_aload_n dH_longestUnregistered_18 rfl ?_
      refine mx_get 4 0 dH_longestUnregistered_19 fgH_11 rfl rfl ?_
      refine mx_iload_n dH_longestUnregistered_22 rfl ?_
      refine mx_aald dH_longestUnregistered_23 rfl (vp_in_nI hu (by decide)) (eg_at hu) ?_
      refine mx_iload dH_longestUnregistered_24 rfl ?_
      refine mx_iald dH_longestUnregistered_26 (pic_row (by omega) (by omega)) (vp_in_nI (by omega) (by decide)) ?_
      rw [nI_clamp (by omega)]
      refine mx_if_ne 44 dH_longestUnregistered_27 rfl (fun h27 => ?_) (fun h27 => ?_)
      · first | rw [if_pos h27] at ih | rw [if_neg (fun e => e h27)] at ih
        refine mx_iinc dH_longestUnregistered_44 rfl (mx_inc _) (Nat.le_of_ble_eq_true rfl) rfl ?_
        refine mx_goto 12 dH_longestUnregistered_47 rfl ?_
        exact ih
      · refine mx_iload_n dH_longestUnregistered_30 rfl ?_
        refine mx_aload_n dH_longestUnregistered_31 rfl ?_
        refine mx_get 4 1 dH_longestUnregistered_32 fgH_16 rfl rfl ?_
        refine mx_iload_n dH_longestUnregistered_35 rfl ?_
        refine mx_aald dH_longestUnregistered_36 rfl (vp_in_nI hu (by decide)) (eg_at hu) ?_
        refine mx_iload dH_longestUnregistered_37 rfl ?_
        refine mx_iald dH_longestUnregistered_39 (pic_row (by omega) (by omega)) (vp_in_nI (by omega) (by decide)) ?_
        rw [nI_clamp (by omega)]
        refine mx_max dH_longestUnregistered_40 (mT_3 (i := 11) rfl rfl) (mT_1 (i := 235) rfl rfl) (mT_1 (i := 17) rfl rfl) (mT_1 (i := 236) rfl rfl) (Nat.le_of_ble_eq_true rfl) (Nat.le_of_ble_eq_true rfl) ?_
        refine mx_istore_n dH_longestUnregistered_43 (Nat.le_of_ble_eq_true rfl) rfl ?_
        first | rw [if_pos h27] at ih | rw [if_neg (fun e => e h27)] at ih
        refine mx_iinc dH_longestUnregistered_44 rfl (mx_inc _) (Nat.le_of_ble_eq_true rfl) rfl ?_
        refine mx_goto 12 dH_longestUnregistered_47 rfl ?_
        exact ih
  have l1 : ∀ i, i ≤ c → mx_W mx_K mT mCl jH_longestUnregistered (mR 1 24) 4 [.ref 5, .int (nI c), .int (lp (fun u x => lp (fun v x => hLu1 I (u + 1) (v + 1) x) c x) i 0), .int (nI (i + 1)), .retAddr 0] [] (pic cnt fil I L) Q := by
    refine lp_down ?_ ?_
    · refine mx_iload_n dH_longestUnregistered_4 rfl ?_
      refine mx_iload_n dH_longestUnregistered_5 rfl ?_
      refine mx_icmp_gt 56 dH_longestUnregistered_6 rfl (fun h6 => ?_) (fun h6 => ?_)
      rotate_left
      · exact absurd (nI_lt (Nat.lt_succ_self c) (by omega)) h6
      refine mx_iload_n dH_longestUnregistered_56 rfl ?_
      refine mx_iret dH_longestUnregistered_57 rfl rfl ?_
      exact hQ
    · intro i hi ih
      refine mx_iload_n dH_longestUnregistered_4 rfl ?_
      refine mx_iload_n dH_longestUnregistered_5 rfl ?_
      refine mx_icmp_gt 56 dH_longestUnregistered_6 rfl (fun h6 => ?_) (fun h6 => ?_)
      · exact absurd h6 (nI_nlt (by omega) (by omega))
      refine mx_iconst (1) dH_longestUnregistered_9 (by decide) ?_
      refine mx_istore dH_longestUnregistered_10 (Nat.le_of_ble_eq_true rfl) rfl ?_
      refine li i _ hi ?_ 0 (Nat.zero_le _)
      refine mx_iinc dH_longestUnregistered_50 rfl (mx_inc _) (Nat.le_of_ble_eq_true rfl) rfl ?_
      refine mx_goto 4 dH_longestUnregistered_53 rfl ?_
      refine mx_drop 4 ?_
      exact ih
  refine mx_iconst (0) dH_longestUnregistered_0 (by decide) ?_
  refine mx_istore_n dH_longestUnregistered_1 (Nat.le_of_ble_eq_true rfl) rfl ?_
  refine mx_iconst (1) dH_longestUnregistered_2 (by decide) ?_
  refine mx_istore_n dH_longestUnregistered_3 (Nat.le_of_ble_eq_true rfl) rfl ?_
  exact l1 0 (Nat.zero_le _)
end
section
/-! Limits. -/
def lLim (I : Nat → Nat → Int32) (a b : Nat) (x : Int32) : Nat → Nat → Int32 := upI I (52 + a) (upd (I (52 + a)) b (if x < I (52 + a) b then x else I (52 + a) b))
theorem lLim_low {I : Nat → Nat → Int32} {a b k : Nat} {x : Int32} (h : k < 52) : lLim I a b x k = I k := upI_ne _ _ (by omega)
theorem cL_limit {cnt fil : Int32} {I : Nat → Nat → Int32} {L : Nat → Nat → Int64} {Q : mx_O → List va_E → Prop} {a b : Nat} {x : Int32} (ha : a < 13) (hb : b < 13) (hQ : Q (.inl none) (pic cnt fil (lLim I a b x) L)) : mx_W mx_K mT mCl jL_limit (mR 1 24) 0 [.ref 6, .int (nI a), .int (nI b), .int x] [] (pic cnt fil I L) Q := by
  refine mx_aload_n dL_limit_0 rfl ?_
  refine mx_get 5 1 dL_limit_1 fgL_17 rfl rfl ?_
  refine mx_iload_n dL_limit_4 rfl ?_
  refine mx_aald dL_limit_5 rfl (vp_in_nI (by omega) (by decide)) (eg_at ha) ?_
  refine mx_iload_n dL_limit_6 rfl ?_
  refine mx_aload_n dL_limit_7 rfl ?_
  refine mx_get 5 1 dL_limit_8 fgL_17 rfl rfl ?_
  refine mx_iload_n dL_limit_11 rfl ?_
  refine mx_aald dL_limit_12 rfl (vp_in_nI (by omega) (by decide)) (eg_at ha) ?_
  refine mx_iload_n dL_limit_13 rfl ?_
  refine mx_iald dL_limit_14 (pic_row (by omega) (by omega)) (vp_in_nI (by omega) (by decide)) ?_
  rw [nI_clamp (by omega)]
  refine mx_iload_n dL_limit_15 rfl ?_
  refine mx_min dL_limit_16 (mT_3 (i := 53) rfl rfl) (mT_3 (i := 54) rfl rfl) (mT_1 (i := 17) rfl rfl) (mT_3 (i := 55) rfl rfl) (Nat.le_of_ble_eq_true rfl) (Nat.le_of_ble_eq_true rfl) ?_
  refine mx_iast dL_limit_19 (pic_row (by omega) (by omega)) (vp_in_nI (by omega) (by decide)) ?_
  refine mx_vret dL_limit_20 rfl ?_
  rw [nI_clamp (by omega), pic_srow (by omega) (by omega)]
  exact hQ
theorem cL_limitWire {cnt fil : Int32} {I : Nat → Nat → Int32} {L : Nat → Nat → Int64} {Q : mx_O → List va_E → Prop} {a b : Nat} {x : Int32} (ha : a < 13) (hb : b < 13) (hQ : Q (.inl none) (pic cnt fil (lLim (lLim I a b x) b a (20 - x)) L)) : mx_W mx_K mT mCl jL_limitWire (mR 2 47) 0 [.ref 6, .int (nI a), .int (nI b), .int x] [] (pic cnt fil I L) Q := by
  refine mx_aload_n dL_limitWire_0 rfl ?_
  refine mx_iload_n dL_limitWire_1 rfl ?_
  refine mx_iload_n dL_limitWire_2 rfl ?_
  refine mx_iload_n dL_limitWire_3 rfl ?_
  refine mx_V1 (R' := (mR 1 24)) [_, _, _] _ dL_limitWire_4 rfl mT_G jL_limit_ok jL_limit_v lkL_56 ⟨rfl, rfl, Nat.le_of_ble_eq_true rfl, Nat.le_of_ble_eq_true rfl⟩ rfl rfl (Nat.le_of_ble_eq_true rfl) (Nat.le_of_ble_eq_true rfl) rfl rfl rfl (fun Qc qc => cL_limit ha hb qc) ?_
  refine mx_aload_n dL_limitWire_7 rfl ?_
  refine mx_iload_n dL_limitWire_8 rfl ?_
  refine mx_iload_n dL_limitWire_9 rfl ?_
  refine mx_bipush (20) dL_limitWire_10 (by decide) ?_
  refine mx_iload_n dL_limitWire_12 rfl ?_
  refine mx_isub dL_limitWire_13 ?_
  refine mx_V1 (R' := (mR 1 24)) [_, _, _] _ dL_limitWire_14 rfl mT_G jL_limit_ok jL_limit_v lkL_56 ⟨rfl, rfl, Nat.le_of_ble_eq_true rfl, Nat.le_of_ble_eq_true rfl⟩ rfl rfl (Nat.le_of_ble_eq_true rfl) (Nat.le_of_ble_eq_true rfl) rfl rfl rfl (fun Qc qc => cL_limit hb ha qc) ?_
  refine mx_vret dL_limitWire_17 rfl ?_
  exact hQ
def lP1 (I : Nat → Nat → Int32) (u v : Nat) (k : Int32) : Nat → Nat → Int32 := if I (39 + u) v ≤ k then I else lLim I u v (I (26 + u) v - 1)
def lP2 (c : Nat) (k : Int32) (u : Nat) (I : Nat → Nat → Int32) : Nat → Nat → Int32 := lp (fun i I => lP1 I u (i + 1) k) c I
theorem cL_limitPaths {c : Nat} {cnt fil : Int32} {I : Nat → Nat → Int32} {L : Nat → Nat → Int64} {Q : mx_O → List va_E → Prop} (hc : c ≤ 12) {u : Nat} {k : Int32} (hu : u < 13) (hQ : Q (.inl none) (pic cnt fil (lP2 c k u I) L)) : mx_W mx_K mT mCl jL_limitPaths (mR 2 47) 0 [.ref 6, .int (nI c), .ref 5, .int (nI u), .int k, .retAddr 0] [] (pic cnt fil I L) Q := by
  have hloop : ∀ i, i ≤ c → mx_W mx_K mT mCl jL_limitPaths (mR 2 47) 3 [.ref 6, .int (nI c), .ref 5, .int (nI u), .int k, .int (nI (i + 1))] [] (pic cnt fil (lp (fun i I => lP1 I u (i + 1) k) i I) L) Q := by
    refine lp_down ?_ ?_
    · refine mx_iload dL_limitPaths_3 rfl ?_
      refine mx_iload_n dL_limitPaths_5 rfl ?_
      refine mx_icmp_gt 47 dL_limitPaths_6 rfl (fun h6 => ?_) (fun h6 => ?_)
      rotate_left
      · exact absurd (nI_lt (Nat.lt_succ_self c) (by omega)) h6
      refine mx_vret dL_limitPaths_47 rfl ?_
      exact hQ
    · intro i hi ih
      have ih : mx_W mx_K mT mCl jL_limitPaths (mR 2 47) 3 [.ref 6, .int (nI c), .ref 5, .int (nI u), .int k, .int (nI (i + 1 + 1))] [] (pic cnt fil (lP1 (lp (fun i I => lP1 I u (i + 1) k) i I) u (i + 1) k) L) Q := ih
      generalize lp (fun i I => lP1 I u (i + 1) k) i I = G at ih ⊢
      unfold lP1 at ih
      refine mx_iload dL_limitPaths_3 rfl ?_
      refine mx_iload_n dL_limitPaths_5 rfl ?_
      refine mx_icmp_gt 47 dL_limitPaths_6 rfl (fun h6 => ?_) (fun h6 => ?_)
      · exact absurd h6 (nI_nlt (by omega) (by omega))
      refine mx_aload_n dL_limitPaths_9 rfl ?_
      refine mx_get 4 1 dL_limitPaths_10 fgL_59 rfl rfl ?_
      refine mx_iload_n dL_limitPaths_13 rfl ?_
      refine mx_aald dL_limitPaths_14 rfl (vp_in_nI (by omega) (by decide)) (eg_at hu) ?_
      refine mx_iload dL_limitPaths_15 rfl ?_
      refine mx_iald dL_limitPaths_17 (pic_row (by omega) (by omega)) (vp_in_nI (by omega) (by decide)) ?_
      rw [nI_clamp (by omega)]
      refine mx_iload dL_limitPaths_18 rfl ?_
      refine mx_icmp_le 41 dL_limitPaths_20 rfl (fun h20 => ?_) (fun h20 => ?_)
      · first | rw [if_pos h20] at ih | rw [if_neg h20] at ih
        refine mx_iinc dL_limitPaths_41 rfl (mx_inc _) (Nat.le_of_ble_eq_true rfl) rfl ?_
        refine mx_goto 3 dL_limitPaths_44 rfl ?_
        exact ih
      · refine mx_aload_n dL_limitPaths_23 rfl ?_
        refine mx_iload_n dL_limitPaths_24 rfl ?_
        refine mx_iload dL_limitPaths_25 rfl ?_
        refine mx_aload_n dL_limitPaths_27 rfl ?_
        refine mx_get 4 0 dL_limitPaths_28 fgL_64 rfl rfl ?_
        refine mx_iload_n dL_limitPaths_31 rfl ?_
        refine mx_aald dL_limitPaths_32 rfl (vp_in_nI (by omega) (by decide)) (eg_at hu) ?_
        refine mx_iload dL_limitPaths_33 rfl ?_
        refine mx_iald dL_limitPaths_35 (pic_row (by omega) (by omega)) (vp_in_nI (by omega) (by decide)) ?_
        rw [nI_clamp (by omega)]
        refine mx_iconst (1) dL_limitPaths_36 (by decide) ?_
        refine mx_isub dL_limitPaths_37 ?_
        refine mx_V1 (R' := (mR 1 24)) [_, _, _] _ dL_limitPaths_38 rfl mT_G jL_limit_ok jL_limit_v lkL_56 ⟨rfl, rfl, Nat.le_of_ble_eq_true rfl, Nat.le_of_ble_eq_true rfl⟩ rfl rfl (Nat.le_of_ble_eq_true rfl) (Nat.le_of_ble_eq_true rfl) rfl rfl rfl (fun Qc qc => cL_limit hu (by omega) qc) ?_
        first | rw [if_pos h20] at ih | rw [if_neg h20] at ih
        refine mx_iinc dL_limitPaths_41 rfl (mx_inc _) (Nat.le_of_ble_eq_true rfl) rfl ?_
        refine mx_goto 3 dL_limitPaths_44 rfl ?_
        exact ih
  refine mx_iconst (1) dL_limitPaths_0 (by decide) ?_
  refine mx_istore dL_limitPaths_1 (Nat.le_of_ble_eq_true rfl) rfl ?_
  exact hloop 0 (Nat.zero_le _)
def lS1 (c : Nat) (I : Nat → Nat → Int32) : Nat → Nat → Int32 := lp (fun a G => lp (fun b G => upI G (52 + a) (upd (G (52 + a)) b 1000)) (c + 1) G) (c + 1) I
def lWire (w : Nat) (I : Nat → Nat → Int32) : Nat → Nat → Int32 := if I 12 w = 0 then I else lLim (lLim I (bh (I 12) w).toNatClampNeg (gbf w) (I 13 w)) (gbf w) (bh (I 12) w).toNatClampNeg (20 - I 13 w)
def lS2 (c : Nat) (I : Nat → Nat → Int32) : Nat → Nat → Int32 := lp lWire 27 (lS1 c I)
/-- what Limits.set leaves -/
def lSet (c : Nat) (k : Int32) (I : Nat → Nat → Int32) : Nat → Nat → Int32 := lp (fun u G => lP2 c k (u + 1) G) c (lS2 c I)
theorem lP1_low {I : Nat → Nat → Int32} {u v j : Nat} {k : Int32} (h : j < 52) : lP1 I u v k j = I j := by
  unfold lP1; split
  · rfl
  · exact lLim_low h
theorem lP2_low {I : Nat → Nat → Int32} {c u j : Nat} {k : Int32} (h : j < 52) : lP2 c k u I j = I j := by
  unfold lP2
  exact lp_keep (P := fun (G : Nat → Nat → Int32) => G j = I j) rfl c (fun i t _ ht => by rw [lP1_low h]; exact ht)
theorem lWire_low {I : Nat → Nat → Int32} {w j : Nat} (h : j < 52) : lWire w I j = I j := by
  unfold lWire; split
  · rfl
  · rw [lLim_low h, lLim_low h]
theorem lS1_low {I : Nat → Nat → Int32} {c j : Nat} (h : j < 52) : lS1 c I j = I j := by
  unfold lS1
  exact lp_keep (P := fun (G : Nat → Nat → Int32) => G j = I j) rfl (c + 1) (fun a t _ ht => lp_keep (P := fun (G : Nat → Nat → Int32) => G j = I j) ht (c + 1) (fun b t _ ht => by rw [upI_ne _ _ (by omega)]; exact ht))
theorem lS2_low {I : Nat → Nat → Int32} {c j : Nat} (h : j < 52) : lS2 c I j = I j := by
  unfold lS2
  exact lp_keep (P := fun (G : Nat → Nat → Int32) => G j = I j) (f := lWire) (s := lS1 c I) (lS1_low h) 27 (fun i t _ ht => by rw [lWire_low h]; exact ht)
theorem lSet_low {I : Nat → Nat → Int32} {c j : Nat} {k : Int32} (h : j < 52) : lSet c k I j = I j := by
  unfold lSet
  exact lp_keep (P := fun (G : Nat → Nat → Int32) => G j = I j) (lS2_low h) c (fun i t _ ht => by rw [lP2_low h]; exact ht)
theorem cL_set {c : Nat} {fil : Int32} {I : Nat → Nat → Int32} {L : Nat → Nat → Int64} {Q : mx_O → List va_E → Prop} (hc : c ≤ 12) (hsr : ∀ w, w < 27 → I 12 w ≤ 12) {k : Int32} (hQ : Q (.inl none) (pic (nI c) fil (lSet c k I) L)) : mx_W mx_K mT mCl jL_set (mR 3 72) 0 [.ref 6, .ref 1, .ref 2, .ref 5, .int k, .retAddr 0, .retAddr 0] [] (pic (nI c) fil I L) Q := by
  have l3 : ∀ i, i ≤ c → mx_W mx_K mT mCl jL_set (mR 3 72) 100 [.ref 6, .ref 1, .ref 2, .ref 5, .int k, .int (nI (i + 1)), .retAddr 0] [] (pic (nI c) fil (lp (fun u G => lP2 c k (u + 1) G) i (lS2 c I)) L) Q := by
    refine lp_down ?_ ?_
    · refine mx_iload dL_set_100 rfl ?_
      refine mx_aload_n dL_set_102 rfl ?_
      refine mx_get 1 0 dL_set_103 fgL_20 rfl rfl ?_
      refine mx_icmp_gt 128 dL_set_106 rfl (fun h106 => ?_) (fun h106 => ?_)
      rotate_left
      · exact absurd (nI_lt (Nat.lt_succ_self c) (by omega)) h106
      refine mx_vret dL_set_128 rfl ?_
      exact hQ
    · intro i hi ih
      refine mx_iload dL_set_100 rfl ?_
      refine mx_aload_n dL_set_102 rfl ?_
      refine mx_get 1 0 dL_set_103 fgL_20 rfl rfl ?_
      refine mx_icmp_gt 128 dL_set_106 rfl (fun h106 => ?_) (fun h106 => ?_)
      · exact absurd h106 (nI_nlt (by omega) (by omega))
      refine mx_aload_n dL_set_109 rfl ?_
      refine mx_aload_n dL_set_110 rfl ?_
      refine mx_get 1 0 dL_set_111 fgL_20 rfl rfl ?_
      refine mx_aload_n dL_set_114 rfl ?_
      refine mx_iload dL_set_115 rfl ?_
      refine mx_iload dL_set_117 rfl ?_
      refine mx_V1 (R' := (mR 2 47)) [_, _, _, _] _ dL_set_119 rfl mT_G jL_limitPaths_ok jL_limitPaths_v lkL_45 ⟨rfl, rfl, Nat.le_of_ble_eq_true rfl, Nat.le_of_ble_eq_true rfl⟩ rfl rfl (Nat.le_of_ble_eq_true rfl) (Nat.le_of_ble_eq_true rfl) rfl rfl rfl (fun Qc qc => cL_limitPaths hc (by omega) qc) ?_
      refine mx_iinc dL_set_122 rfl (mx_inc _) (Nat.le_of_ble_eq_true rfl) rfl ?_
      refine mx_goto 100 dL_set_125 rfl ?_
      exact ih
  have l2 : ∀ i, i ≤ 27 → mx_W mx_K mT mCl jL_set (mR 3 72) 52 [.ref 6, .ref 1, .ref 2, .ref 5, .int k, .int (nI i), .retAddr 0] [] (pic (nI c) fil (lp lWire i (lS1 c I)) L) Q := by
    refine lp_down ?_ ?_
    · refine mx_iload dL_set_52 rfl ?_
      refine mx_bipush (27) dL_set_54 (by decide) ?_
      refine mx_icmp_ge 97 dL_set_56 rfl (fun h56 => ?_) (fun h56 => ?_)
      rotate_left
      · exact absurd (show (27 : Int32) ≤ nI 27 by decide) h56
      refine mx_iconst (1) dL_set_97 (by decide) ?_
      refine mx_istore dL_set_98 (Nat.le_of_ble_eq_true rfl) rfl ?_
      have l30 := l3 0 (Nat.zero_le _)
      rw [lp_zero] at l30
      unfold lS2 at l30
      exact l30
    · intro i hi ih
      have hlow : (lp lWire i (lS1 c I)) 12 = I 12 := lp_keep (P := fun (G : Nat → Nat → Int32) => G 12 = I 12) (lS1_low (by decide)) i (fun j t _ ht => by rw [lWire_low (by decide)]; exact ht)
      have ih : mx_W mx_K mT mCl jL_set (mR 3 72) 52 [.ref 6, .ref 1, .ref 2, .ref 5, .int k, .int (nI (i + 1)), .retAddr 0] [] (pic (nI c) fil (lWire i (lp lWire i (lS1 c I))) L) Q := ih
      generalize lp lWire i (lS1 c I) = G at ih hlow ⊢
      have hs12 : G 12 i ≤ 12 := by rw [hlow]; exact hsr i hi
      obtain ⟨u, hu, eu⟩ := vp_in_of (bh_in hs12) (by decide)
      have hv := gbf_le hi
      have hcl : (bh (G 12) i).toNatClampNeg = u := by rw [eu, nI_clamp (by omega)]
      have hwi : vp_in (nI i) 27 := vp_in_nI hi (by decide)
      unfold lWire at ih
      rw [hcl] at ih
      refine mx_iload dL_set_52 rfl ?_
      refine mx_bipush (27) dL_set_54 (by decide) ?_
      refine mx_icmp_ge 97 dL_set_56 rfl (fun h56 => ?_) (fun h56 => ?_)
      · exact absurd h56 (nI_ge (b := 27) hi (by decide))
      refine mx_aload_n dL_set_59 rfl ?_
      refine mx_get 1 3 dL_set_60 fgL_26 rfl rfl ?_
      refine mx_iload dL_set_63 rfl ?_
      refine mx_iald dL_set_65 rfl hwi ?_
      rw [nI_clamp (by omega)]
      refine mx_if_eq 91 dL_set_66 rfl (fun h66 => ?_) (fun h66 => ?_)
      · first | rw [if_pos h66] at ih | rw [if_neg h66] at ih
        refine mx_iinc dL_set_91 rfl (mx_inc _) (Nat.le_of_ble_eq_true rfl) rfl ?_
        refine mx_goto 52 dL_set_94 rfl ?_
        exact ih
      · refine mx_aload_n dL_set_69 rfl ?_
        refine mx_aload_n dL_set_70 rfl ?_
        refine mx_iload dL_set_71 rfl ?_
        refine mx_V1 (R' := (mR 1 24)) [_] _ dL_set_73 rfl mT_G jP_gateBehind_ok jP_gateBehind_v lkL_29 ⟨rfl, rfl, Nat.le_of_ble_eq_true rfl, Nat.le_of_ble_eq_true rfl⟩ rfl rfl (Nat.le_of_ble_eq_true rfl) (Nat.le_of_ble_eq_true rfl) rfl rfl rfl (fun Qc qc => cP_gateBehind pic_P hwi qc) ?_
        rw [gb_nat (by omega), eu]
        refine mx_aload_n dL_set_76 rfl ?_
        refine mx_iload dL_set_77 rfl ?_
        refine mx_V1 (R' := (mR 0 0)) [_] _ dL_set_79 rfl mT_G jP_gateBefore_ok jP_gateBefore_v lkL_33 ⟨rfl, rfl, Nat.le_of_ble_eq_true rfl, Nat.le_of_ble_eq_true rfl⟩ rfl rfl (Nat.le_of_ble_eq_true rfl) (Nat.le_of_ble_eq_true rfl) rfl rfl rfl (fun Qc qc => cP_gateBefore qc) ?_
        rw [gbf_nat (by omega)]
        refine mx_aload_n dL_set_82 rfl ?_
        refine mx_iload dL_set_83 rfl ?_
        refine mx_V1 (R' := (mR 0 0)) [_] _ dL_set_85 rfl mT_G jB_length_ok jB_length_v lkL_36 ⟨rfl, rfl, Nat.le_of_ble_eq_true rfl, Nat.le_of_ble_eq_true rfl⟩ rfl rfl (Nat.le_of_ble_eq_true rfl) (Nat.le_of_ble_eq_true rfl) rfl rfl rfl (fun Qc qc => cB_length pic_B hwi qc) ?_
        rw [nI_clamp (by omega)]
        refine mx_V1 (R' := (mR 2 47)) [_, _, _] _ dL_set_88 rfl mT_G jL_limitWire_ok jL_limitWire_v lkL_41 ⟨rfl, rfl, Nat.le_of_ble_eq_true rfl, Nat.le_of_ble_eq_true rfl⟩ rfl rfl (Nat.le_of_ble_eq_true rfl) (Nat.le_of_ble_eq_true rfl) rfl rfl rfl (fun Qc qc => cL_limitWire hu (by omega) qc) ?_
        first | rw [if_pos h66] at ih | rw [if_neg h66] at ih
        refine mx_iinc dL_set_91 rfl (mx_inc _) (Nat.le_of_ble_eq_true rfl) rfl ?_
        refine mx_goto 52 dL_set_94 rfl ?_
        exact ih
  have l1i : ∀ (a : Nat) (G : Nat → Nat → Int32), a ≤ c → mx_W mx_K mT mCl jL_set (mR 3 72) 43 [.ref 6, .ref 1, .ref 2, .ref 5, .int k, .int (nI a), .int (nI (c + 1))] [] (pic (nI c) fil (lp (fun b G => upI G (52 + a) (upd (G (52 + a)) b 1000)) (c + 1) G) L) Q → ∀ i, i ≤ c + 1 → mx_W mx_K mT mCl jL_set (mR 3 72) 15 [.ref 6, .ref 1, .ref 2, .ref 5, .int k, .int (nI a), .int (nI i)] [] (pic (nI c) fil (lp (fun b G => upI G (52 + a) (upd (G (52 + a)) b 1000)) i G) L) Q := by
    intro a G ha hk
    refine lp_down ?_ ?_
    · refine mx_iload dL_set_15 rfl ?_
      refine mx_aload_n dL_set_17 rfl ?_
      refine mx_get 1 0 dL_set_18 fgL_20 rfl rfl ?_
      refine mx_icmp_gt 43 dL_set_21 rfl (fun h21 => ?_) (fun h21 => ?_)
      rotate_left
      · exact absurd (nI_lt (Nat.lt_succ_self c) (by omega)) h21
      exact hk
    · intro i hi ih
      refine mx_iload dL_set_15 rfl ?_
      refine mx_aload_n dL_set_17 rfl ?_
      refine mx_get 1 0 dL_set_18 fgL_20 rfl rfl ?_
      refine mx_icmp_gt 43 dL_set_21 rfl (fun h21 => ?_) (fun h21 => ?_)
      · exact absurd h21 (nI_nlt (by omega) (by omega))
      refine mx_aload_n dL_set_24 rfl ?_
      refine mx_get 5 1 dL_set_25 fgL_17 rfl rfl ?_
      refine mx_iload dL_set_28 rfl ?_
      refine mx_aald dL_set_30 rfl (vp_in_nI (by omega) (by decide)) (eg_at (by omega)) ?_
      refine mx_iload dL_set_31 rfl ?_
      refine mx_sipush (1000) dL_set_33 (by decide) ?_
      refine mx_iast dL_set_36 (pic_row (by omega) (by omega)) (vp_in_nI (by omega) (by decide)) ?_
      rw [nI_clamp (by omega), pic_srow (by omega) (by omega)]
      refine mx_iinc dL_set_37 rfl (mx_inc _) (Nat.le_of_ble_eq_true rfl) rfl ?_
      refine mx_goto 15 dL_set_40 rfl ?_
      exact ih
  have l1 : ∀ i, i ≤ c + 1 → mx_W mx_K mT mCl jL_set (mR 3 72) 3 [.ref 6, .ref 1, .ref 2, .ref 5, .int k, .int (nI i), .retAddr 0] [] (pic (nI c) fil (lp (fun a G => lp (fun b G => upI G (52 + a) (upd (G (52 + a)) b 1000)) (c + 1) G) i I) L) Q := by
    refine lp_down ?_ ?_
    · refine mx_iload dL_set_3 rfl ?_
      refine mx_aload_n dL_set_5 rfl ?_
      refine mx_get 1 0 dL_set_6 fgL_20 rfl rfl ?_
      refine mx_icmp_gt 49 dL_set_9 rfl (fun h9 => ?_) (fun h9 => ?_)
      rotate_left
      · exact absurd (nI_lt (Nat.lt_succ_self c) (by omega)) h9
      refine mx_iconst (0) dL_set_49 (by decide) ?_
      refine mx_istore dL_set_50 (Nat.le_of_ble_eq_true rfl) rfl ?_
      have l20 := l2 0 (Nat.zero_le _)
      rw [lp_zero] at l20
      unfold lS1 at l20
      exact l20
    · intro i hi ih
      refine mx_iload dL_set_3 rfl ?_
      refine mx_aload_n dL_set_5 rfl ?_
      refine mx_get 1 0 dL_set_6 fgL_20 rfl rfl ?_
      refine mx_icmp_gt 49 dL_set_9 rfl (fun h9 => ?_) (fun h9 => ?_)
      · exact absurd h9 (nI_nlt (by omega) (by omega))
      refine mx_iconst (0) dL_set_12 (by decide) ?_
      refine mx_istore dL_set_13 (Nat.le_of_ble_eq_true rfl) rfl ?_
      refine l1i i _ (by omega) ?_ 0 (Nat.zero_le _)
      refine mx_iinc dL_set_43 rfl (mx_inc _) (Nat.le_of_ble_eq_true rfl) rfl ?_
      refine mx_goto 3 dL_set_46 rfl ?_
      refine mx_drop 6 ?_
      exact ih
  refine mx_iconst (0) dL_set_0 (by decide) ?_
  refine mx_istore dL_set_1 (Nat.le_of_ble_eq_true rfl) rfl ?_
  exact l1 0 (Nat.zero_le _)
/-- labels, and whether one was lowered -/
abbrev lS : Type := (Nat → Int32) × Int32
def lStep (M : Nat → Nat → Int32) (a b : Nat) (s : lS) : lS := if s.1 a ≤ s.1 b + M a b then s else (upd s.1 a (s.1 b + M a b), 1)
def lLow (c : Nat) (M : Nat → Nat → Int32) (lab : Nat → Int32) : lS := lp (fun a s => lp (fun b s => lStep M a b s) (c + 1) s) (c + 1) (lab, 0)
theorem cL_lowerAll {c : Nat} {cnt fil : Int32} {I : Nat → Nat → Int32} {L : Nat → Nat → Int64} {Q : mx_O → List va_E → Prop} (hc : c ≤ 12) {lab : Nat → Int32} (hQ : Q (.inl (some (.int ((lLow c (fun a b => I (52 + a) b) lab).2)))) (pic cnt fil (upI I 21 (lLow c (fun a b => I (52 + a) b) lab).1) L)) : mx_W mx_K mT mCl jL_lowerAll (mR 0 0) 0 [.ref 6, .int (nI c), .retAddr 0, .retAddr 0, .retAddr 0] [] (pic cnt fil (upI I 21 lab) L) Q := by
  have hz : ∀ s : lS, (lLow c (fun a b => I (52 + a) b) lab = s) → (s.2 = 0 ∨ s.2 = 1) := by
    intro s hs
    rw [← hs]
    unfold lLow
    refine lp_keep (P := fun (s : lS) => s.2 = 0 ∨ s.2 = 1) (Or.inl rfl) (c + 1) (fun a t _ ht => lp_keep (P := fun (s : lS) => s.2 = 0 ∨ s.2 = 1) ht (c + 1) (fun b t _ ht => ?_))
    unfold lStep
    split
    · exact ht
    · exact Or.inr rfl
  have li : ∀ (a : Nat) (s : lS), a ≤ c → mx_W mx_K mT mCl jL_lowerAll (mR 0 0) 75 [.ref 6, .int (nI c), .int (lp (fun b s => lStep (fun a b => I (52 + a) b) a b s) (c + 1) s).2, .int (nI a), .int (nI (c + 1))] [] (pic cnt fil (upI I 21 (lp (fun b s => lStep (fun a b => I (52 + a) b) a b s) (c + 1) s).1) L) Q → ∀ i, i ≤ c + 1 → mx_W mx_K mT mCl jL_lowerAll (mR 0 0) 12 [.ref 6, .int (nI c), .int (lp (fun b s => lStep (fun a b => I (52 + a) b) a b s) i s).2, .int (nI a), .int (nI i)] [] (pic cnt fil (upI I 21 (lp (fun b s => lStep (fun a b => I (52 + a) b) a b s) i s).1) L) Q := by
    intro a s ha hk
    refine lp_down ?_ ?_
    · refine mx_iload dL_lowerAll_12 rfl ?_
      refine mx_iload_n dL_lowerAll_14 rfl ?_
      refine mx_icmp_gt 75 dL_lowerAll_15 rfl (fun h15 => ?_) (fun h15 => ?_)
      rotate_left
      · exact absurd (nI_lt (Nat.lt_succ_self c) (by omega)) h15
      exact hk
    · intro i hi ih
      have ih : mx_W mx_K mT mCl jL_lowerAll (mR 0 0) 12 [.ref 6, .int (nI c), .int (lStep (fun a b => I (52 + a) b) a i (lp (fun b s => lStep (fun a b => I (52 + a) b) a b s) i s)).2, .int (nI a), .int (nI (i + 1))] [] (pic cnt fil (upI I 21 (lStep (fun a b => I (52 + a) b) a i (lp (fun b s => lStep (fun a b => I (52 + a) b) a b s) i s)).1) L) Q := ih
      generalize lp (fun b s => lStep (fun a b => I (52 + a) b) a b s) i s = t at ih ⊢
      unfold lStep at ih
      refine mx_iload dL_lowerAll_12 rfl ?_
      refine mx_iload_n dL_lowerAll_14 rfl ?_
      refine mx_icmp_gt 75 dL_lowerAll_15 rfl (fun h15 => ?_) (fun h15 => ?_)
      · exact absurd h15 (nI_nlt (by omega) (by omega))
      refine mx_aload_n dL_lowerAll_18 rfl ?_
      refine mx_get 5 0 dL_lowerAll_19 fgL_9 rfl rfl ?_
      refine mx_iload_n dL_lowerAll_22 rfl ?_
      refine mx_iald dL_lowerAll_23 rfl (vp_in_nI (by omega) (by decide)) ?_
      rw [nI_clamp (by omega), upI_self]
      refine mx_aload_n dL_lowerAll_24 rfl ?_
      refine mx_get 5 0 dL_lowerAll_25 fgL_9 rfl rfl ?_
      refine mx_iload dL_lowerAll_28 rfl ?_
      refine mx_iald dL_lowerAll_30 rfl (vp_in_nI (by omega) (by decide)) ?_
      rw [nI_clamp (by omega), upI_self]
      refine mx_aload_n dL_lowerAll_31 rfl ?_
      refine mx_get 5 1 dL_lowerAll_32 fgL_17 rfl rfl ?_
      refine mx_iload_n dL_lowerAll_35 rfl ?_
      refine mx_aald dL_lowerAll_36 rfl (vp_in_nI (by omega) (by decide)) (eg_at (by omega)) ?_
      refine mx_iload dL_lowerAll_37 rfl ?_
      refine mx_iald dL_lowerAll_39 (by rw [pic_row (by omega) (by omega), upI_ne _ _ (by omega)]) (vp_in_nI (by omega) (by decide)) ?_
      rw [nI_clamp (by omega)]
      refine mx_iadd dL_lowerAll_40 ?_
      refine mx_icmp_le 69 dL_lowerAll_41 rfl (fun h41 => ?_) (fun h41 => ?_)
      · first | rw [if_pos h41] at ih | rw [if_neg h41] at ih
        refine mx_iinc dL_lowerAll_69 rfl (mx_inc _) (Nat.le_of_ble_eq_true rfl) rfl ?_
        refine mx_goto 12 dL_lowerAll_72 rfl ?_
        exact ih
      · refine mx_aload_n dL_lowerAll_44 rfl ?_
        refine mx_get 5 0 dL_lowerAll_45 fgL_9 rfl rfl ?_
        refine mx_iload_n dL_lowerAll_48 rfl ?_
        refine mx_aload_n dL_lowerAll_49 rfl ?_
        refine mx_get 5 0 dL_lowerAll_50 fgL_9 rfl rfl ?_
        refine mx_iload dL_lowerAll_53 rfl ?_
        refine mx_iald dL_lowerAll_55 rfl (vp_in_nI (by omega) (by decide)) ?_
        rw [nI_clamp (by omega), upI_self]
        refine mx_aload_n dL_lowerAll_56 rfl ?_
        refine mx_get 5 1 dL_lowerAll_57 fgL_17 rfl rfl ?_
        refine mx_iload_n dL_lowerAll_60 rfl ?_
        refine mx_aald dL_lowerAll_61 rfl (vp_in_nI (by omega) (by decide)) (eg_at (by omega)) ?_
        refine mx_iload dL_lowerAll_62 rfl ?_
        refine mx_iald dL_lowerAll_64 (by rw [pic_row (by omega) (by omega), upI_ne _ _ (by omega)]) (vp_in_nI (by omega) (by decide)) ?_
        rw [nI_clamp (by omega)]
        refine mx_iadd dL_lowerAll_65 ?_
        refine mx_iast dL_lowerAll_66 rfl (vp_in_nI (by omega) (by decide)) ?_
        rw [nI_clamp (by omega), upI_self]
        refine mx_eqs rfl rfl rfl (pic_21 _) ?_
        rw [upI_upI]
        refine mx_iconst (1) dL_lowerAll_67 (by decide) ?_
        refine mx_istore_n dL_lowerAll_68 (Nat.le_of_ble_eq_true rfl) rfl ?_
        first | rw [if_pos h41] at ih | rw [if_neg h41] at ih
        refine mx_iinc dL_lowerAll_69 rfl (mx_inc _) (Nat.le_of_ble_eq_true rfl) rfl ?_
        refine mx_goto 12 dL_lowerAll_72 rfl ?_
        exact ih
  have l1 : ∀ i, i ≤ c + 1 → mx_W mx_K mT mCl jL_lowerAll (mR 0 0) 4 [.ref 6, .int (nI c), .int (lp (fun a s => lp (fun b s => lStep (fun a b => I (52 + a) b) a b s) (c + 1) s) i (lab, 0)).2, .int (nI i), .retAddr 0] [] (pic cnt fil (upI I 21 (lp (fun a s => lp (fun b s => lStep (fun a b => I (52 + a) b) a b s) (c + 1) s) i (lab, 0)).1) L) Q := by
    refine lp_down ?_ ?_
    · refine mx_iload_n dL_lowerAll_4 rfl ?_
      refine mx_iload_n dL_lowerAll_5 rfl ?_
      refine mx_icmp_gt 81 dL_lowerAll_6 rfl (fun h6 => ?_) (fun h6 => ?_)
      rotate_left
      · exact absurd (nI_lt (Nat.lt_succ_self c) (by omega)) h6
      refine mx_iload_n dL_lowerAll_81 rfl ?_
      refine mx_iret dL_lowerAll_82 rfl (by rcases hz _ rfl with e | e <;> (unfold lLow at e; rw [e]; rfl)) ?_
      exact hQ
    · intro i hi ih
      refine mx_iload_n dL_lowerAll_4 rfl ?_
      refine mx_iload_n dL_lowerAll_5 rfl ?_
      refine mx_icmp_gt 81 dL_lowerAll_6 rfl (fun h6 => ?_) (fun h6 => ?_)
      · exact absurd h6 (nI_nlt (by omega) (by omega))
      refine mx_iconst (0) dL_lowerAll_9 (by decide) ?_
      refine mx_istore dL_lowerAll_10 (Nat.le_of_ble_eq_true rfl) rfl ?_
      refine li i _ (by omega) ?_ 0 (Nat.zero_le _)
      refine mx_iinc dL_lowerAll_75 rfl (mx_inc _) (Nat.le_of_ble_eq_true rfl) rfl ?_
      refine mx_goto 4 dL_lowerAll_78 rfl ?_
      refine mx_drop 4 ?_
      exact ih
  refine mx_iconst (0) dL_lowerAll_0 (by decide) ?_
  refine mx_istore_n dL_lowerAll_1 (Nat.le_of_ble_eq_true rfl) rfl ?_
  refine mx_iconst (0) dL_lowerAll_2 (by decide) ?_
  refine mx_istore_n dL_lowerAll_3 (Nat.le_of_ble_eq_true rfl) rfl ?_
  exact l1 0 (Nat.zero_le _)
def lAll (c : Nat) (lab : Nat → Int32) : Bool := allB c (fun i => decide (-6 ≤ lab (i + 1))) && decide (lab 0 = 0)
theorem cL_areAllowed {c : Nat} {cnt fil : Int32} {I : Nat → Nat → Int32} {L : Nat → Nat → Int64} {Q : mx_O → List va_E → Prop} (hc : c ≤ 12) (hQ : Q (.inl (some (.int (i01 (lAll c (I 21)))))) (pic cnt fil I L)) : mx_W mx_K mT mCl jL_areAllowed (mR 0 0) 0 [.ref 6, .int (nI c), .retAddr 0] [] (pic cnt fil I L) Q := by
  unfold lAll at hQ
  have hloop : ∀ i, i ≤ c → (∀ j, j < i → -6 ≤ I 21 (j + 1)) → mx_W mx_K mT mCl jL_areAllowed (mR 0 0) 2 [.ref 6, .int (nI c), .int (nI (i + 1))] [] (pic cnt fil I L) Q := by
    refine lp_down ?_ ?_
    · intro hno
      rw [show allB c (fun i => decide (-6 ≤ I 21 (i + 1))) = true from allB_iff.mpr (fun j hj => decide_eq_true (hno j hj)), Bool.true_and] at hQ
      refine mx_iload_n dL_areAllowed_2 rfl ?_
      refine mx_iload_n dL_areAllowed_3 rfl ?_
      refine mx_icmp_gt 26 dL_areAllowed_4 rfl (fun h4 => ?_) (fun h4 => ?_)
      rotate_left
      · exact absurd (nI_lt (Nat.lt_succ_self c) (by omega)) h4
      refine mx_aload_n dL_areAllowed_26 rfl ?_
      refine mx_get 5 0 dL_areAllowed_27 fgL_9 rfl rfl ?_
      refine mx_iconst (0) dL_areAllowed_30 (by decide) ?_
      refine mx_iald dL_areAllowed_31 rfl (vp_in_nI (n := 0) (by decide) (by decide)) ?_
      rw [sb_cl0]
      refine mx_if_ne 39 dL_areAllowed_32 rfl (fun h32 => ?_) (fun h32 => ?_)
      · refine mx_iconst (0) dL_areAllowed_39 (by decide) ?_
        refine mx_iret dL_areAllowed_40 rfl rfl ?_
        rw [i01_f (decide_eq_false h32)] at hQ
        exact hQ
      · refine mx_iconst (1) dL_areAllowed_35 (by decide) ?_
        refine mx_goto 40 dL_areAllowed_36 rfl ?_
        refine mx_iret dL_areAllowed_40 rfl rfl ?_
        rw [i01_t (decide_eq_true h32)] at hQ
        exact hQ
    · intro i hi ih hno
      refine mx_iload_n dL_areAllowed_2 rfl ?_
      refine mx_iload_n dL_areAllowed_3 rfl ?_
      refine mx_icmp_gt 26 dL_areAllowed_4 rfl (fun h4 => ?_) (fun h4 => ?_)
      · exact absurd h4 (nI_nlt (by omega) (by omega))
      refine mx_aload_n dL_areAllowed_7 rfl ?_
      refine mx_get 5 0 dL_areAllowed_8 fgL_9 rfl rfl ?_
      refine mx_iload_n dL_areAllowed_11 rfl ?_
      refine mx_iald dL_areAllowed_12 rfl (vp_in_nI (by omega) (by decide)) ?_
      rw [nI_clamp (by omega)]
      refine mx_bipush (-6) dL_areAllowed_13 (by decide) ?_
      refine mx_icmp_ge 20 dL_areAllowed_15 rfl (fun h15 => ?_) (fun h15 => ?_)
      · refine mx_iinc dL_areAllowed_20 rfl (mx_inc _) (Nat.le_of_ble_eq_true rfl) rfl ?_
        refine mx_goto 2 dL_areAllowed_23 rfl ?_
        refine ih (fun j hj => ?_)
        by_cases e : j = i
        · subst e; exact h15
        · exact hno j (by omega)
      · refine mx_iconst (0) dL_areAllowed_18 (by decide) ?_
        refine mx_iret dL_areAllowed_19 rfl rfl ?_
        rw [show allB c (fun i => decide (-6 ≤ I 21 (i + 1))) = false from allB_no hi (by simpa using h15), Bool.false_and] at hQ
        exact hQ
  refine mx_iconst (1) dL_areAllowed_0 (by decide) ?_
  refine mx_istore_n dL_areAllowed_1 (Nat.le_of_ble_eq_true rfl) rfl ?_
  exact hloop 0 (Nat.zero_le _) (fun j hj => absurd hj (Nat.not_lt_zero j))
def lRun (c : Nat) (M : Nat → Nat → Int32) : Nat → (Nat → Int32) → (Nat → Int32) × Bool
  | 0, lab => (lab, false)
  | n + 1, lab => if lAll c (lLow c M lab).1 = true then (if (lLow c M lab).2 = 0 then ((lLow c M lab).1, true) else lRun c M n (lLow c M lab).1) else ((lLow c M lab).1, false)
def lIni (c : Nat) (hi : Int32) (lab : Nat → Int32) : Nat → Int32 := lp (fun i l => upd l (i + 1) hi) c (upd lab 0 0)
/-- what Limits.solve leaves in labels, and its answer -/
def lSol (c : Nat) (hi : Int32) (I : Nat → Nat → Int32) : (Nat → Int32) × Bool := lRun c (fun a b => I (52 + a) b) 146 (lIni c hi (I 21))
theorem i01_nz {b : Bool} (h : ¬ i01 b = 0) : b = true := by
  cases b with
  | true => rfl
  | false => exact absurd rfl h
theorem i01_z {b : Bool} (h : i01 b = 0) : b = false := by
  cases b with
  | false => rfl
  | true => exact absurd h (by decide)
theorem cL_solve {c : Nat} {cnt fil : Int32} {I : Nat → Nat → Int32} {L : Nat → Nat → Int64} {Q : mx_O → List va_E → Prop} (hc : c ≤ 12) {hi : Int32} (hQ : Q (.inl (some (.int (i01 (lSol c hi I).2)))) (pic cnt fil (upI I 21 (lSol c hi I).1) L)) : mx_W mx_K mT mCl jL_solve (mR 1 24) 0 [.ref 6, .int (nI c), .int hi, .retAddr 0, .retAddr 0] [] (pic cnt fil I L) Q := by
  have l2 : ∀ r, r ≤ 146 → ∀ lab : Nat → Int32, Q (.inl (some (.int (i01 (lRun c (fun a b => I (52 + a) b) (146 - r) lab).2)))) (pic cnt fil (upI I 21 (lRun c (fun a b => I (52 + a) b) (146 - r) lab).1) L) → mx_W mx_K mT mCl jL_solve (mR 1 24) 29 [.ref 6, .int (nI c), .int hi, .int (nI r), .retAddr 0] [] (pic cnt fil (upI I 21 lab) L) Q := by
    refine lp_down ?_ ?_
    · intro lab hq
      rw [Nat.sub_self] at hq
      refine mx_iload_n dL_solve_29 rfl ?_
      refine mx_sipush (146) dL_solve_30 (by decide) ?_
      refine mx_icmp_ge 66 dL_solve_33 rfl (fun h33 => ?_) (fun h33 => ?_)
      rotate_left
      · exact absurd (show (146 : Int32) ≤ nI 146 by decide) h33
      refine mx_iconst (0) dL_solve_66 (by decide) ?_
      refine mx_iret dL_solve_67 rfl rfl ?_
      exact hq
    · intro r hr ih lab hq
      rw [show 146 - r = (146 - (r + 1)) + 1 by omega] at hq
      unfold lRun at hq
      refine mx_iload_n dL_solve_29 rfl ?_
      refine mx_sipush (146) dL_solve_30 (by decide) ?_
      refine mx_icmp_ge 66 dL_solve_33 rfl (fun h33 => ?_) (fun h33 => ?_)
      · exact absurd h33 (nI_ge (b := 146) hr (by decide))
      refine mx_aload_n dL_solve_36 rfl ?_
      refine mx_iload_n dL_solve_37 rfl ?_
      refine mx_V1 (R' := (mR 0 0)) [_] _ dL_solve_38 rfl mT_G jL_lowerAll_ok jL_lowerAll_v lkL_49 ⟨rfl, rfl, Nat.le_of_ble_eq_true rfl, Nat.le_of_ble_eq_true rfl⟩ rfl rfl (Nat.le_of_ble_eq_true rfl) (Nat.le_of_ble_eq_true rfl) rfl rfl rfl (fun Qc qc => cL_lowerAll hc qc) ?_
      refine mx_istore dL_solve_41 (Nat.le_of_ble_eq_true rfl) rfl ?_
      refine mx_aload_n dL_solve_43 rfl ?_
      refine mx_iload_n dL_solve_44 rfl ?_
      refine mx_V1 (R' := (mR 0 0)) [_] _ dL_solve_45 rfl mT_G jL_areAllowed_ok jL_areAllowed_v lkL_53 ⟨rfl, rfl, Nat.le_of_ble_eq_true rfl, Nat.le_of_ble_eq_true rfl⟩ rfl rfl (Nat.le_of_ble_eq_true rfl) (Nat.le_of_ble_eq_true rfl) rfl rfl rfl (fun Qc qc => cL_areAllowed (I := upI I 21 (lLow c (fun a b => I (52 + a) b) lab).1) hc qc) ?_
      rw [upI_self]
      refine mx_if_ne 53 dL_solve_48 rfl (fun h48 => ?_) (fun h48 => ?_)
      · refine mx_iload dL_solve_53 rfl ?_
        refine mx_if_ne 60 dL_solve_55 rfl (fun h55 => ?_) (fun h55 => ?_)
        · rw [if_pos (i01_nz h48), if_neg h55] at hq
          refine mx_iinc dL_solve_60 rfl (mx_inc _) (Nat.le_of_ble_eq_true rfl) rfl ?_
          refine mx_goto 29 dL_solve_63 rfl ?_
          refine mx_drop 4 ?_
          exact ih _ hq
        · refine mx_iconst (1) dL_solve_58 (by decide) ?_
          refine mx_iret dL_solve_59 rfl rfl ?_
          rw [if_pos (i01_nz h48), if_pos h55] at hq
          exact hq
      · refine mx_iconst (0) dL_solve_51 (by decide) ?_
        refine mx_iret dL_solve_52 rfl rfl ?_
        rw [if_neg (by rw [i01_z h48]; decide)] at hq
        exact hq
  have l1 : ∀ i, i ≤ c → mx_W mx_K mT mCl jL_solve (mR 1 24) 9 [.ref 6, .int (nI c), .int hi, .int (nI (i + 1)), .retAddr 0] [] (pic cnt fil (upI I 21 (lp (fun i l => upd l (i + 1) hi) i (upd (I 21) 0 0))) L) Q := by
    refine lp_down ?_ ?_
    · refine mx_iload_n dL_solve_9 rfl ?_
      refine mx_iload_n dL_solve_10 rfl ?_
      refine mx_icmp_gt 27 dL_solve_11 rfl (fun h11 => ?_) (fun h11 => ?_)
      rotate_left
      · exact absurd (nI_lt (Nat.lt_succ_self c) (by omega)) h11
      refine mx_iconst (0) dL_solve_27 (by decide) ?_
      refine mx_istore_n dL_solve_28 (Nat.le_of_ble_eq_true rfl) rfl ?_
      exact l2 0 (Nat.zero_le _) _ hQ
    · intro i hi2 ih
      refine mx_iload_n dL_solve_9 rfl ?_
      refine mx_iload_n dL_solve_10 rfl ?_
      refine mx_icmp_gt 27 dL_solve_11 rfl (fun h11 => ?_) (fun h11 => ?_)
      · exact absurd h11 (nI_nlt (by omega) (by omega))
      refine mx_aload_n dL_solve_14 rfl ?_
      refine mx_get 5 0 dL_solve_15 fgL_9 rfl rfl ?_
      refine mx_iload_n dL_solve_18 rfl ?_
      refine mx_iload_n dL_solve_19 rfl ?_
      refine mx_iast dL_solve_20 rfl (vp_in_nI (by omega) (by decide)) ?_
      rw [nI_clamp (by omega), upI_self]
      refine mx_eqs rfl rfl rfl (pic_21 _) ?_
      rw [upI_upI]
      refine mx_iinc dL_solve_21 rfl (mx_inc _) (Nat.le_of_ble_eq_true rfl) rfl ?_
      refine mx_goto 9 dL_solve_24 rfl ?_
      exact ih
  refine mx_aload_n dL_solve_0 rfl ?_
  refine mx_get 5 0 dL_solve_1 fgL_9 rfl rfl ?_
  refine mx_iconst (0) dL_solve_4 (by decide) ?_
  refine mx_iconst (0) dL_solve_5 (by decide) ?_
  refine mx_iast dL_solve_6 rfl (vp_in_nI (n := 0) (by decide) (by decide)) ?_
  refine mx_iconst (1) dL_solve_7 (by decide) ?_
  refine mx_istore_n dL_solve_8 (Nat.le_of_ble_eq_true rfl) rfl ?_
  refine mx_eqs rfl rfl rfl (pic_21 _) ?_
  exact l1 0 (Nat.zero_le _)
end
section
/-! Mover. -/
theorem mx_dec (n : Nat) : nI (n + 1) + Int32.ofInt (-1) = nI n := pk_m1 n
/-- lengths, values -/
abbrev bS : Type := (Nat → Int32) × (Nat → Int64)
def bTk (b : bS) (w : Nat) : bS := (upd b.1 w (b.1 w - 1), vp_updL b.2 w (bSh (b.2 w)))
def bPk (b : bS) (w : Nat) (x : Int32) : bS := (upd b.1 w (b.1 w + 1), vp_updL b.2 w (bPs (b.2 w) x))
def bTs (b : bS) (w : Nat) : bS := (upd b.1 w (b.1 w - 1), b.2)
def bPu (b : bS) (w : Nat) (x : Int32) : bS := (upd b.1 w (b.1 w + 1), vp_updL b.2 w (bWr (b.2 w) (b.1 w) x))
/-- the picture, with the trial bank b -/
def tPic (c : Nat) (fil : Int32) (I : Nat → Nat → Int32) (L : Nat → Nat → Int64) (b : bS) : List va_E := pic (nI c) fil (upI I 15 b.1) (upL L 16 b.2)
theorem tPic_own {c : Nat} {fil : Int32} {I : Nat → Nat → Int32} {L : Nat → Nat → Int64} : tPic c fil I L (I 15, L 16) = pic (nI c) fil I L := by
  unfold tPic; rw [upI_own, upL_own]
theorem tPic_B {c : Nat} {fil : Int32} {I : Nat → Nat → Int32} {L : Nat → Nat → Int64} {b : bS} : pB (tPic c fil I L b) 3 15 16 b.1 b.2 := ⟨rfl, rfl, rfl⟩
theorem tPic_P {c : Nat} {fil : Int32} {I : Nat → Nat → Int32} {L : Nat → Nat → Int64} {b : bS} : pP (tPic c fil I L b) 1 10 11 12 (nI c) (I 10) (I 11) (I 12) := ⟨rfl, rfl, rfl, rfl⟩
theorem tPic_set {c : Nat} {fil : Int32} {I : Nat → Nat → Int32} {L : Nat → Nat → Int64} {b : bS} (f : Nat → Int32) (g : Nat → Int64) : ((tPic c fil I L b).set 16 (eV g)).set 15 (eL f) = tPic c fil I L (f, g) := by
  unfold tPic
  rw [pic_16, show eL f = eI 27 f from rfl, pic_15, upI_upI, upL_upL]
theorem tPic_setl {c : Nat} {fil : Int32} {I : Nat → Nat → Int32} {L : Nat → Nat → Int64} {b : bS} (f : Nat → Int32) : (tPic c fil I L b).set 15 (eL f) = tPic c fil I L (f, b.2) := by
  unfold tPic
  rw [show eL f = eI 27 f from rfl, pic_15, upI_upI]
def canF (kd ln : Nat → Int32) (g : Nat) : Bool := allB (pn kd g) (fun k => decide (¬ ln (2 * g - 2 + k) = 0))
def canB (sr ln : Nat → Int32) (g : Nat) : Bool := allB 27 (fun w => !(decide (sr w = nI g) && decide (ln w = 0)))
theorem cV_canForward {c : Nat} {fil : Int32} {I : Nat → Nat → Int32} {L : Nat → Nat → Int64} {Q : mx_O → List va_E → Prop} {b : bS} {g : Nat} (g1 : 1 ≤ g) (g2 : g ≤ 12) (hQ : Q (.inl (some (.int (i01 (canF (I 10) b.1 g))))) (tPic c fil I L b)) : mx_W mx_K mT mCl jV_canForward (mR 2 42) 0 [.ref 7, .ref 1, .ref 3, .int (nI g), .retAddr 0] [] (tPic c fil I L b) Q := by
  have hg : vp_in (nI g) 13 := (vp_in_nI (by omega) (by decide))
  have hp2 := pn_le (I 10) g
  have hloop : ∀ i, i ≤ pn (I 10) g → (∀ j, j < i → ¬ b.1 (2 * g - 2 + j) = 0) → mx_W mx_K mT mCl jV_canForward (mR 2 42) 7 [.ref 7, .ref 1, .ref 3, .int (nI g), .int (nI (2 * g - 2 + i))] [] (tPic c fil I L b) Q := by
    refine lp_down ?_ ?_
    · intro hno
      refine mx_iload dV_canForward_7 rfl ?_
      refine mx_aload_n dV_canForward_9 rfl ?_
      refine mx_iload_n dV_canForward_10 rfl ?_
      refine mx_V1 (R' := (mR 1 21)) [_] _ dV_canForward_11 rfl mT_G jP_endOfPins_ok jP_endOfPins_v lkV_53 ⟨rfl, rfl, Nat.le_of_ble_eq_true rfl, Nat.le_of_ble_eq_true rfl⟩ rfl rfl (Nat.le_of_ble_eq_true rfl) (Nat.le_of_ble_eq_true rfl) rfl rfl rfl (fun Qc qc => cP_endOfPins tPic_P hg qc) ?_
      rw [ep_nat g1 (by omega)]
      refine mx_icmp_ge 34 dV_canForward_14 rfl (fun h14 => ?_) (fun h14 => ?_)
      rotate_left
      · exact absurd (nI_le (Nat.le_refl _) (by omega)) h14
      refine mx_iconst (1) dV_canForward_34 (by decide) ?_
      refine mx_iret dV_canForward_35 rfl rfl ?_
      rw [i01_t (show canF (I 10) b.1 g = true from allB_iff.mpr (fun j hj => by simpa using hno j hj))] at hQ
      exact hQ
    · intro i hi ih hno
      refine mx_iload dV_canForward_7 rfl ?_
      refine mx_aload_n dV_canForward_9 rfl ?_
      refine mx_iload_n dV_canForward_10 rfl ?_
      refine mx_V1 (R' := (mR 1 21)) [_] _ dV_canForward_11 rfl mT_G jP_endOfPins_ok jP_endOfPins_v lkV_53 ⟨rfl, rfl, Nat.le_of_ble_eq_true rfl, Nat.le_of_ble_eq_true rfl⟩ rfl rfl (Nat.le_of_ble_eq_true rfl) (Nat.le_of_ble_eq_true rfl) rfl rfl rfl (fun Qc qc => cP_endOfPins tPic_P hg qc) ?_
      rw [ep_nat g1 (by omega)]
      refine mx_icmp_ge 34 dV_canForward_14 rfl (fun h14 => ?_) (fun h14 => ?_)
      · exact absurd h14 (nI_ge (by omega) (by omega))
      refine mx_aload_n dV_canForward_17 rfl ?_
      refine mx_iload dV_canForward_18 rfl ?_
      refine mx_V1 (R' := (mR 0 0)) [_] _ dV_canForward_20 rfl mT_G jB_length_ok jB_length_v lkV_56 ⟨rfl, rfl, Nat.le_of_ble_eq_true rfl, Nat.le_of_ble_eq_true rfl⟩ rfl rfl (Nat.le_of_ble_eq_true rfl) (Nat.le_of_ble_eq_true rfl) rfl rfl rfl (fun Qc qc => cB_length tPic_B (vp_in_nI (by omega) (by decide)) qc) ?_
      rw [nI_clamp (by omega)]
      refine mx_if_ne 28 dV_canForward_23 rfl (fun h23 => ?_) (fun h23 => ?_)
      · refine mx_iinc dV_canForward_28 rfl (mx_inc _) (Nat.le_of_ble_eq_true rfl) rfl ?_
        refine mx_goto 7 dV_canForward_31 rfl ?_
        refine ih (fun j hj => ?_)
        by_cases e : j = i
        · subst e; exact h23
        · exact hno j (by omega)
      · refine mx_iconst (0) dV_canForward_26 (by decide) ?_
        refine mx_iret dV_canForward_27 rfl rfl ?_
        rw [i01_f (show canF (I 10) b.1 g = false from allB_no hi (by simpa using h23))] at hQ
        exact hQ
  refine mx_aload_n dV_canForward_0 rfl ?_
  refine mx_iload_n dV_canForward_1 rfl ?_
  refine mx_V1 (R' := (mR 0 0)) [_] _ dV_canForward_2 rfl mT_G jP_firstPin_ok jP_firstPin_v lkV_49 ⟨rfl, rfl, Nat.le_of_ble_eq_true rfl, Nat.le_of_ble_eq_true rfl⟩ rfl rfl (Nat.le_of_ble_eq_true rfl) (Nat.le_of_ble_eq_true rfl) rfl rfl rfl (fun Qc qc => cP_firstPin qc) ?_
  rw [fp_nat g1]
  refine mx_istore dV_canForward_5 (Nat.le_of_ble_eq_true rfl) rfl ?_
  exact hloop 0 (Nat.zero_le _) (fun j hj => absurd hj (Nat.not_lt_zero j))
theorem cV_canBackward {c : Nat} {fil : Int32} {I : Nat → Nat → Int32} {L : Nat → Nat → Int64} {Q : mx_O → List va_E → Prop} {b : bS} {g : Nat} (hQ : Q (.inl (some (.int (i01 (canB (I 12) b.1 g))))) (tPic c fil I L b)) : mx_W mx_K mT mCl jV_canBackward (mR 1 21) 0 [.ref 7, .ref 1, .ref 3, .int (nI g), .retAddr 0] [] (tPic c fil I L b) Q := by
  have hloop : ∀ i, i ≤ 27 → (∀ j, j < i → (!(decide (I 12 j = nI g) && decide (b.1 j = 0))) = true) → mx_W mx_K mT mCl jV_canBackward (mR 1 21) 3 [.ref 7, .ref 1, .ref 3, .int (nI g), .int (nI i)] [] (tPic c fil I L b) Q := by
    refine lp_down ?_ ?_
    · intro hno
      refine mx_iload dV_canBackward_3 rfl ?_
      refine mx_bipush (27) dV_canBackward_5 (by decide) ?_
      refine mx_icmp_ge 38 dV_canBackward_7 rfl (fun h7 => ?_) (fun h7 => ?_)
      rotate_left
      · exact absurd (show (27 : Int32) ≤ nI 27 by decide) h7
      refine mx_iconst (1) dV_canBackward_38 (by decide) ?_
      refine mx_iret dV_canBackward_39 rfl rfl ?_
      rw [i01_t (show canB (I 12) b.1 g = true from allB_iff.mpr hno)] at hQ
      exact hQ
    · intro i hi ih hno
      refine mx_iload dV_canBackward_3 rfl ?_
      refine mx_bipush (27) dV_canBackward_5 (by decide) ?_
      refine mx_icmp_ge 38 dV_canBackward_7 rfl (fun h7 => ?_) (fun h7 => ?_)
      · exact absurd h7 (nI_ge (b := 27) hi (by decide))
      refine mx_aload_n dV_canBackward_10 rfl ?_
      refine mx_get 1 3 dV_canBackward_11 fgV_61 rfl rfl ?_
      refine mx_iload dV_canBackward_14 rfl ?_
      refine mx_iald dV_canBackward_16 rfl (vp_in_nI (by omega) (by decide)) ?_
      rw [nI_clamp (by omega)]
      refine mx_iload_n dV_canBackward_17 rfl ?_
      show mx_W mx_K mT mCl jV_canBackward (mR 1 21) _ _ (_ :: .int (I 12 i) :: _) _ _
      refine mx_icmp_ne 32 dV_canBackward_18 rfl (fun h18 => ?_) (fun h18 => ?_)
      · refine mx_iinc dV_canBackward_32 rfl (mx_inc _) (Nat.le_of_ble_eq_true rfl) rfl ?_
        refine mx_goto 3 dV_canBackward_35 rfl ?_
        refine ih (fun j hj => ?_)
        by_cases e : j = i
        · subst e; simp [h7, h18]
        · exact hno j (by omega)
      · refine mx_aload_n dV_canBackward_21 rfl ?_
        refine mx_iload dV_canBackward_22 rfl ?_
        refine mx_V1 (R' := (mR 0 0)) [_] _ dV_canBackward_24 rfl mT_G jB_length_ok jB_length_v lkV_56 ⟨rfl, rfl, Nat.le_of_ble_eq_true rfl, Nat.le_of_ble_eq_true rfl⟩ rfl rfl (Nat.le_of_ble_eq_true rfl) (Nat.le_of_ble_eq_true rfl) rfl rfl rfl (fun Qc qc => cB_length tPic_B (vp_in_nI (by omega) (by decide)) qc) ?_
        rw [nI_clamp (by omega)]
        refine mx_if_ne 32 dV_canBackward_27 rfl (fun h27 => ?_) (fun h27 => ?_)
        · refine mx_iinc dV_canBackward_32 rfl (mx_inc _) (Nat.le_of_ble_eq_true rfl) rfl ?_
          refine mx_goto 3 dV_canBackward_35 rfl ?_
          refine ih (fun j hj => ?_)
          by_cases e : j = i
          · subst e; simp [h7, h18, h27]
          · exact hno j (by omega)
        · refine mx_iconst (0) dV_canBackward_30 (by decide) ?_
          refine mx_iret dV_canBackward_31 rfl rfl ?_
          rw [i01_f (show canB (I 12) b.1 g = false from allB_no hi (by simp [h18, h27]))] at hQ
          exact hQ
  refine mx_iconst (0) dV_canBackward_0 (by decide) ?_
  refine mx_istore dV_canBackward_1 (Nat.le_of_ble_eq_true rfl) rfl ?_
  exact hloop 0 (Nat.zero_le _) (fun j hj => absurd hj (Nat.not_lt_zero j))
def fLast (sr : Nat → Int32) (g : Nat) (v : Int32) (b : bS) : bS := lp (fun w b => if ¬ sr w = nI g then b else bPu b w v) 27 b
def mFwd (kd sr : Nat → Int32) (g : Nat) (b : bS) : bS := if ¬ nI (pn kd g) = 2 then fLast sr g (gMade (kd g) (bRd (b.2 (2 * g - 2)) 0) 2) (bTk b (2 * g - 2)) else fLast sr g (gMade (kd g) (bRd (b.2 (2 * g - 2)) 0) (bRd ((bTk b (2 * g - 2)).2 (2 * g - 2 + 1)) 0)) (bTk (bTk b (2 * g - 2)) (2 * g - 2 + 1))
theorem cV_forward {c : Nat} {fil : Int32} {I : Nat → Nat → Int32} {L : Nat → Nat → Int64} {Q : mx_O → List va_E → Prop} {b : bS} {g : Nat} (g1 : 1 ≤ g) (g2 : g ≤ 12) (hQ : Q (.inl none) (tPic c fil I L (mFwd (I 10) (I 12) g b))) : mx_W mx_K mT mCl jV_forward (mR 2 47) 0 [.ref 7, .ref 1, .ref 3, .int (nI g), .retAddr 0, .retAddr 0, .retAddr 0, .retAddr 0, .retAddr 0] [] (tPic c fil I L b) Q := by
  have hg : vp_in (nI g) 13 := (vp_in_nI (by omega) (by decide))
  have hp2 := pn_le (I 10) g
  have hloop : ∀ (b : bS) (x y z v : Int32), Q (.inl none) (tPic c fil I L (fLast (I 12) g v b)) → ∀ i, i ≤ 27 → mx_W mx_K mT mCl jV_forward (mR 2 47) 56 [.ref 7, .ref 1, .ref 3, .int (nI g), .int x, .int y, .int z, .int v, .int (nI i)] [] (tPic c fil I L (lp (fun w b => if ¬ I 12 w = nI g then b else bPu b w v) i b)) Q := by
    intro b x y z v hq
    refine lp_down ?_ ?_
    · refine mx_iload dV_forward_56 rfl ?_
      refine mx_bipush (27) dV_forward_58 (by decide) ?_
      refine mx_icmp_ge 88 dV_forward_60 rfl (fun h60 => ?_) (fun h60 => ?_)
      rotate_left
      · exact absurd (show (27 : Int32) ≤ nI 27 by decide) h60
      refine mx_vret dV_forward_88 rfl ?_
      unfold fLast at hq
      exact hq
    · intro i hi ih
      have ih : mx_W mx_K mT mCl jV_forward (mR 2 47) 56 [.ref 7, .ref 1, .ref 3, .int (nI g), .int x, .int y, .int z, .int v, .int (nI (i + 1))] [] (tPic c fil I L ((fun b => if ¬ I 12 i = nI g then b else bPu b i v) (lp (fun w b => if ¬ I 12 w = nI g then b else bPu b w v) i b))) Q := ih
      generalize lp (fun w b => if ¬ I 12 w = nI g then b else bPu b w v) i b = t at ih ⊢
      dsimp only at ih
      refine mx_iload dV_forward_56 rfl ?_
      refine mx_bipush (27) dV_forward_58 (by decide) ?_
      refine mx_icmp_ge 88 dV_forward_60 rfl (fun h60 => ?_) (fun h60 => ?_)
      · exact absurd h60 (nI_ge (b := 27) hi (by decide))
      refine mx_aload_n dV_forward_63 rfl ?_
      refine mx_get 1 3 dV_forward_64 fgV_61 rfl rfl ?_
      refine mx_iload dV_forward_67 rfl ?_
      refine mx_iald dV_forward_69 rfl (vp_in_nI (by omega) (by decide)) ?_
      rw [nI_clamp (by omega)]
      show mx_W mx_K mT mCl jV_forward (mR 2 47) _ _ (.int (I 12 i) :: _) _ _
      refine mx_iload_n dV_forward_70 rfl ?_
      refine mx_icmp_ne 82 dV_forward_71 rfl (fun h71 => ?_) (fun h71 => ?_)
      · first | rw [if_pos h71] at ih | rw [if_neg (fun e => e h71)] at ih
        refine mx_iinc dV_forward_82 rfl (mx_inc _) (Nat.le_of_ble_eq_true rfl) rfl ?_
        refine mx_goto 56 dV_forward_85 rfl ?_
        exact ih
      · refine mx_aload_n dV_forward_74 rfl ?_
        refine mx_iload dV_forward_75 rfl ?_
        refine mx_iload dV_forward_77 rfl ?_
        refine mx_V1 (R' := (mR 1 25)) [_, _] _ dV_forward_79 rfl mT_G jB_putAtSource_ok jB_putAtSource_v lkV_79 ⟨rfl, rfl, Nat.le_of_ble_eq_true rfl, Nat.le_of_ble_eq_true rfl⟩ rfl rfl (Nat.le_of_ble_eq_true rfl) (Nat.le_of_ble_eq_true rfl) rfl rfl rfl (fun Qc qc => cB_putAtSource tPic_B (vp_in_nI (by omega) (by decide)) qc) ?_
        rw [nI_clamp (by omega), tPic_set]
        first | rw [if_pos h71] at ih | rw [if_neg (fun e => e h71)] at ih
        refine mx_iinc dV_forward_82 rfl (mx_inc _) (Nat.le_of_ble_eq_true rfl) rfl ?_
        refine mx_goto 56 dV_forward_85 rfl ?_
        exact ih
  unfold mFwd at hQ
  refine mx_aload_n dV_forward_0 rfl ?_
  refine mx_iload_n dV_forward_1 rfl ?_
  refine mx_V1 (R' := (mR 0 0)) [_] _ dV_forward_2 rfl mT_G jP_firstPin_ok jP_firstPin_v lkV_49 ⟨rfl, rfl, Nat.le_of_ble_eq_true rfl, Nat.le_of_ble_eq_true rfl⟩ rfl rfl (Nat.le_of_ble_eq_true rfl) (Nat.le_of_ble_eq_true rfl) rfl rfl rfl (fun Qc qc => cP_firstPin qc) ?_
  rw [fp_nat g1]
  refine mx_istore dV_forward_5 (Nat.le_of_ble_eq_true rfl) rfl ?_
  refine mx_aload_n dV_forward_7 rfl ?_
  refine mx_iload dV_forward_8 rfl ?_
  refine mx_V1 (R' := (mR 1 22)) [_] _ dV_forward_10 rfl mT_G jB_takeAtSink_ok jB_takeAtSink_v lkV_64 ⟨rfl, rfl, Nat.le_of_ble_eq_true rfl, Nat.le_of_ble_eq_true rfl⟩ rfl rfl (Nat.le_of_ble_eq_true rfl) (Nat.le_of_ble_eq_true rfl) rfl rfl rfl (fun Qc qc => cB_takeAtSink tPic_B (vp_in_nI (by omega) (by decide)) qc) ?_
  rw [nI_clamp (by omega), tPic_set]
  refine mx_istore dV_forward_13 (Nat.le_of_ble_eq_true rfl) rfl ?_
  refine mx_aload_n dV_forward_15 rfl ?_
  refine mx_iload_n dV_forward_16 rfl ?_
  refine mx_V1 (R' := (mR 0 0)) [_] _ dV_forward_17 rfl mT_G jP_pinsOf_ok jP_pinsOf_v lkV_67 ⟨rfl, rfl, Nat.le_of_ble_eq_true rfl, Nat.le_of_ble_eq_true rfl⟩ rfl rfl (Nat.le_of_ble_eq_true rfl) (Nat.le_of_ble_eq_true rfl) rfl rfl rfl (fun Qc qc => cP_pinsOf tPic_P hg qc) ?_
  rw [pn_nat (by omega)]
  refine mx_iconst (2) dV_forward_20 (by decide) ?_
  refine mx_icmp_ne 35 dV_forward_21 rfl (fun h21 => ?_) (fun h21 => ?_)
  · refine mx_iconst (2) dV_forward_35 (by decide) ?_
    refine mx_istore dV_forward_36 (Nat.le_of_ble_eq_true rfl) rfl ?_
    refine mx_aload_n dV_forward_38 rfl ?_
    refine mx_get 1 1 dV_forward_39 fgV_70 rfl rfl ?_
    refine mx_iload_n dV_forward_42 rfl ?_
    refine mx_iald dV_forward_43 rfl hg ?_
    rw [nI_clamp (by omega)]
    show mx_W mx_K mT mCl jV_forward (mR 2 47) _ _ (.int (I 10 g) :: _) _ _
    refine mx_iload dV_forward_44 rfl ?_
    refine mx_iload dV_forward_46 rfl ?_
    refine mx_S1 (R' := (mR 1 22)) [_, _, _] _ dV_forward_48 rfl mT_G jG_made_ok jG_made_v lkV_73 ⟨rfl, rfl, Nat.le_of_ble_eq_true rfl, Nat.le_of_ble_eq_true rfl⟩ rfl rfl (Nat.le_of_ble_eq_true rfl) (Nat.le_of_ble_eq_true rfl) (fun Qc qc => cG_made qc) ?_
    refine mx_istore dV_forward_51 (Nat.le_of_ble_eq_true rfl) rfl ?_
    refine mx_iconst (0) dV_forward_53 (by decide) ?_
    refine mx_istore dV_forward_54 (Nat.le_of_ble_eq_true rfl) rfl ?_
    first | rw [if_pos h21] at hQ | rw [if_neg (fun e => e h21)] at hQ
    exact hloop _ _ _ _ _ hQ 0 (Nat.zero_le _)
  · refine mx_aload_n dV_forward_24 rfl ?_
    refine mx_iload dV_forward_25 rfl ?_
    refine mx_iconst (1) dV_forward_27 (by decide) ?_
    refine mx_iadd dV_forward_28 ?_
    rw [nI_1]
    refine mx_V1 (R' := (mR 1 22)) [_] _ dV_forward_29 rfl mT_G jB_takeAtSink_ok jB_takeAtSink_v lkV_64 ⟨rfl, rfl, Nat.le_of_ble_eq_true rfl, Nat.le_of_ble_eq_true rfl⟩ rfl rfl (Nat.le_of_ble_eq_true rfl) (Nat.le_of_ble_eq_true rfl) rfl rfl rfl (fun Qc qc => cB_takeAtSink tPic_B (vp_in_nI (by omega) (by decide)) qc) ?_
    rw [nI_clamp (by have := h21; omega), tPic_set]
    refine mx_goto 36 dV_forward_32 rfl ?_
    refine mx_istore dV_forward_36 (Nat.le_of_ble_eq_true rfl) rfl ?_
    refine mx_aload_n dV_forward_38 rfl ?_
    refine mx_get 1 1 dV_forward_39 fgV_70 rfl rfl ?_
    refine mx_iload_n dV_forward_42 rfl ?_
    refine mx_iald dV_forward_43 rfl hg ?_
    rw [nI_clamp (by omega)]
    show mx_W mx_K mT mCl jV_forward (mR 2 47) _ _ (.int (I 10 g) :: _) _ _
    refine mx_iload dV_forward_44 rfl ?_
    refine mx_iload dV_forward_46 rfl ?_
    refine mx_S1 (R' := (mR 1 22)) [_, _, _] _ dV_forward_48 rfl mT_G jG_made_ok jG_made_v lkV_73 ⟨rfl, rfl, Nat.le_of_ble_eq_true rfl, Nat.le_of_ble_eq_true rfl⟩ rfl rfl (Nat.le_of_ble_eq_true rfl) (Nat.le_of_ble_eq_true rfl) (fun Qc qc => cG_made qc) ?_
    refine mx_istore dV_forward_51 (Nat.le_of_ble_eq_true rfl) rfl ?_
    refine mx_iconst (0) dV_forward_53 (by decide) ?_
    refine mx_istore dV_forward_54 (Nat.le_of_ble_eq_true rfl) rfl ?_
    first | rw [if_pos h21] at hQ | rw [if_neg (fun e => e h21)] at hQ
    exact hloop _ _ _ _ _ hQ 0 (Nat.zero_le _)
end
section
/-! Mover: backward, moveEach, follow. -/
def gJn (a b : Int32) : Int32 := if a = 2 then b else if ¬ a = b then (if ¬ b = 2 then 3 else a) else b
theorem cV_joined {hp : List va_E} {Q : mx_O → List va_E → Prop} {a b : Int32} (hQ : Q (.inl (some (.int (gJn a b)))) (hp)) : mx_W mx_K mT mCl jV_joined (mR 0 0) 0 [.int a, .int b] [] hp Q := by
  refine mx_iload_n dV_joined_0 rfl ?_
  refine mx_iconst (2) dV_joined_1 (by decide) ?_
  refine mx_icmp_eq 10 dV_joined_2 rfl (fun h2 => ?_) (fun h2 => ?_)
  · refine mx_iload_n dV_joined_10 rfl ?_
    refine mx_iret dV_joined_11 rfl rfl ?_
    have e : gJn a b = b := by
      unfold gJn
      (repeat' split) <;> first | rfl | contradiction
    rw [e] at hQ
    exact hQ
  · refine mx_iload_n dV_joined_5 rfl ?_
    refine mx_iload_n dV_joined_6 rfl ?_
    refine mx_icmp_ne 12 dV_joined_7 rfl (fun h7 => ?_) (fun h7 => ?_)
    · refine mx_iload_n dV_joined_12 rfl ?_
      refine mx_iconst (2) dV_joined_13 (by decide) ?_
      refine mx_icmp_ne 21 dV_joined_14 rfl (fun h14 => ?_) (fun h14 => ?_)
      · refine mx_iconst (3) dV_joined_21 (by decide) ?_
        refine mx_iret dV_joined_22 rfl rfl ?_
        have e : gJn a b = 3 := by
          unfold gJn
          (repeat' split) <;> first | rfl | contradiction
        rw [e] at hQ
        exact hQ
      · refine mx_iload_n dV_joined_17 rfl ?_
        refine mx_goto 22 dV_joined_18 rfl ?_
        refine mx_iret dV_joined_22 rfl rfl ?_
        have e : gJn a b = a := by
          unfold gJn
          (repeat' split) <;> first | rfl | contradiction
        rw [e] at hQ
        exact hQ
    · refine mx_iload_n dV_joined_10 rfl ?_
      refine mx_iret dV_joined_11 rfl rfl ?_
      have e : gJn a b = b := by
        unfold gJn
        (repeat' split) <;> first | rfl | contradiction
      rw [e] at hQ
      exact hQ
/-- the values taken back at the sources of gate g, and the bank behind that -/
def kTake (sr : Nat → Int32) (g : Nat) (s : Int32 × bS) : Int32 × bS := lp (fun w s => if ¬ sr w = nI g then s else (gJn s.1 (bRd (s.2.2 w) (s.2.1 w - 1)), bTs s.2 w)) 27 s
def kPut (kd : Nat → Int32) (g : Nat) (v : Int32) (b : bS) : bS := lp (fun i b => bPk b (2 * g - 2 + i) (gNeed (kd g) (nI i) v)) (pn kd g) b
def mBwd (kd sr : Nat → Int32) (g : Nat) (b : bS) : bS × Bool := if ¬ (kTake sr g (2, b)).1 = 3 then (kPut kd g (kTake sr g (2, b)).1 (kTake sr g (2, b)).2, true) else ((kTake sr g (2, b)).2, false)
theorem cV_backward {c : Nat} {fil : Int32} {I : Nat → Nat → Int32} {L : Nat → Nat → Int64} {Q : mx_O → List va_E → Prop} {b : bS} {g : Nat} (g1 : 1 ≤ g) (g2 : g ≤ 12) (hQ : Q (.inl (some (.int (i01 (mBwd (I 10) (I 12) g b).2)))) (tPic c fil I L (mBwd (I 10) (I 12) g b).1)) : mx_W mx_K mT mCl jV_backward (mR 2 43) 0 [.ref 7, .ref 1, .ref 3, .int (nI g), .retAddr 0, .retAddr 0, .retAddr 0] [] (tPic c fil I L b) Q := by
  have hg : vp_in (nI g) 13 := (vp_in_nI (by omega) (by decide))
  have hp2 := pn_le (I 10) g
  have l2 : ∀ (v : Int32) (b : bS), Q (.inl (some (.int 1))) (tPic c fil I L (kPut (I 10) g v b)) → ∀ i, i ≤ pn (I 10) g → mx_W mx_K mT mCl jV_backward (mR 2 43) 62 [.ref 7, .ref 1, .ref 3, .int (nI g), .int v, .int (nI (2 * g - 2)), .int (nI (2 * g - 2 + i))] [] (tPic c fil I L (lp (fun i b => bPk b (2 * g - 2 + i) (gNeed (I 10 g) (nI i) v)) i b)) Q := by
    intro v b hq
    refine lp_down ?_ ?_
    · refine mx_iload dV_backward_62 rfl ?_
      refine mx_aload_n dV_backward_64 rfl ?_
      refine mx_iload_n dV_backward_65 rfl ?_
      refine mx_V1 (R' := (mR 1 21)) [_] _ dV_backward_66 rfl mT_G jP_endOfPins_ok jP_endOfPins_v lkV_53 ⟨rfl, rfl, Nat.le_of_ble_eq_true rfl, Nat.le_of_ble_eq_true rfl⟩ rfl rfl (Nat.le_of_ble_eq_true rfl) (Nat.le_of_ble_eq_true rfl) rfl rfl rfl (fun Qc qc => cP_endOfPins tPic_P hg qc) ?_
      rw [ep_nat g1 (by omega)]
      refine mx_icmp_ge 100 dV_backward_69 rfl (fun h69 => ?_) (fun h69 => ?_)
      rotate_left
      · exact absurd (nI_le (Nat.le_refl _) (by omega)) h69
      refine mx_iconst (1) dV_backward_100 (by decide) ?_
      refine mx_iret dV_backward_101 rfl rfl ?_
      unfold kPut at hq
      exact hq
    · intro i hi ih
      have ih : mx_W mx_K mT mCl jV_backward (mR 2 43) 62 [.ref 7, .ref 1, .ref 3, .int (nI g), .int v, .int (nI (2 * g - 2)), .int (nI (2 * g - 2 + (i + 1)))] [] (tPic c fil I L (bPk (lp (fun i b => bPk b (2 * g - 2 + i) (gNeed (I 10 g) (nI i) v)) i b) (2 * g - 2 + i) (gNeed (I 10 g) (nI i) v))) Q := ih
      generalize lp (fun i b => bPk b (2 * g - 2 + i) (gNeed (I 10 g) (nI i) v)) i b = t at ih ⊢
      refine mx_iload dV_backward_62 rfl ?_
      refine mx_aload_n dV_backward_64 rfl ?_
      refine mx_iload_n dV_backward_65 rfl ?_
      refine mx_V1 (R' := (mR 1 21)) [_] _ dV_backward_66 rfl mT_G jP_endOfPins_ok jP_endOfPins_v lkV_53 ⟨rfl, rfl, Nat.le_of_ble_eq_true rfl, Nat.le_of_ble_eq_true rfl⟩ rfl rfl (Nat.le_of_ble_eq_true rfl) (Nat.le_of_ble_eq_true rfl) rfl rfl rfl (fun Qc qc => cP_endOfPins tPic_P hg qc) ?_
      rw [ep_nat g1 (by omega)]
      refine mx_icmp_ge 100 dV_backward_69 rfl (fun h69 => ?_) (fun h69 => ?_)
      · exact absurd h69 (nI_ge (by omega) (by omega))
      refine mx_aload_n dV_backward_72 rfl ?_
      refine mx_iload dV_backward_73 rfl ?_
      refine mx_aload_n dV_backward_75 rfl ?_
      refine mx_get 1 1 dV_backward_76 fgV_70 rfl rfl ?_
      refine mx_iload_n dV_backward_79 rfl ?_
      refine mx_iald dV_backward_80 rfl hg ?_
      rw [nI_clamp (by omega)]
      show mx_W mx_K mT mCl jV_backward (mR 2 43) _ _ (.int (I 10 g) :: _) _ _
      refine mx_iload dV_backward_81 rfl ?_
      refine mx_iload dV_backward_83 rfl ?_
      refine mx_isub dV_backward_85 ?_
      rw [pk_sub (by omega), show 2 * g - 2 + i - (2 * g - 2) = i by omega]
      refine mx_iload dV_backward_86 rfl ?_
      refine mx_S1 (R' := (mR 1 20)) [_, _, _] _ dV_backward_88 rfl mT_G jG_needed_ok jG_needed_v lkV_90 ⟨rfl, rfl, Nat.le_of_ble_eq_true rfl, Nat.le_of_ble_eq_true rfl⟩ rfl rfl (Nat.le_of_ble_eq_true rfl) (Nat.le_of_ble_eq_true rfl) (fun Qc qc => cG_needed qc) ?_
      refine mx_V1 (R' := (mR 0 0)) [_, _] _ dV_backward_91 rfl mT_G jB_putAtSink_ok jB_putAtSink_v lkV_93 ⟨rfl, rfl, Nat.le_of_ble_eq_true rfl, Nat.le_of_ble_eq_true rfl⟩ rfl rfl (Nat.le_of_ble_eq_true rfl) (Nat.le_of_ble_eq_true rfl) rfl rfl rfl (fun Qc qc => cB_putAtSink tPic_B (vp_in_nI (by omega) (by decide)) qc) ?_
      rw [nI_clamp (by omega), tPic_set]
      refine mx_iinc dV_backward_94 rfl (mx_inc _) (Nat.le_of_ble_eq_true rfl) rfl ?_
      refine mx_goto 62 dV_backward_97 rfl ?_
      exact ih
  have l1 : ∀ i, i ≤ 27 → mx_W mx_K mT mCl jV_backward (mR 2 43) 6 [.ref 7, .ref 1, .ref 3, .int (nI g), .int (lp (fun w (s : Int32 × bS) => if ¬ I 12 w = nI g then s else (gJn s.1 (bRd (s.2.2 w) (s.2.1 w - 1)), bTs s.2 w)) i (2, b)).1, .int (nI i), .retAddr 0] [] (tPic c fil I L (lp (fun w (s : Int32 × bS) => if ¬ I 12 w = nI g then s else (gJn s.1 (bRd (s.2.2 w) (s.2.1 w - 1)), bTs s.2 w)) i (2, b)).2) Q := by
    refine lp_down ?_ ?_
    · show mx_W mx_K mT mCl jV_backward (mR 2 43) 6 [.ref 7, .ref 1, .ref 3, .int (nI g), .int (kTake (I 12) g (2, b)).1, .int (nI 27), .retAddr 0] [] (tPic c fil I L (kTake (I 12) g (2, b)).2) Q
      unfold mBwd at hQ
      generalize kTake (I 12) g (2, b) = t at hQ ⊢
      refine mx_iload dV_backward_6 rfl ?_
      refine mx_bipush (27) dV_backward_8 (by decide) ?_
      refine mx_icmp_ge 43 dV_backward_10 rfl (fun h10 => ?_) (fun h10 => ?_)
      rotate_left
      · exact absurd (show (27 : Int32) ≤ nI 27 by decide) h10
      refine mx_iload dV_backward_43 rfl ?_
      refine mx_iconst (3) dV_backward_45 (by decide) ?_
      refine mx_icmp_ne 51 dV_backward_46 rfl (fun h46 => ?_) (fun h46 => ?_)
      · refine mx_aload_n dV_backward_51 rfl ?_
        refine mx_iload_n dV_backward_52 rfl ?_
        refine mx_V1 (R' := (mR 0 0)) [_] _ dV_backward_53 rfl mT_G jP_firstPin_ok jP_firstPin_v lkV_49 ⟨rfl, rfl, Nat.le_of_ble_eq_true rfl, Nat.le_of_ble_eq_true rfl⟩ rfl rfl (Nat.le_of_ble_eq_true rfl) (Nat.le_of_ble_eq_true rfl) rfl rfl rfl (fun Qc qc => cP_firstPin qc) ?_
        rw [fp_nat g1]
        refine mx_istore dV_backward_56 (Nat.le_of_ble_eq_true rfl) rfl ?_
        refine mx_iload dV_backward_58 rfl ?_
        refine mx_istore dV_backward_60 (Nat.le_of_ble_eq_true rfl) rfl ?_
        rw [if_pos h46] at hQ
        exact l2 _ _ hQ 0 (Nat.zero_le _)
      · refine mx_iconst (0) dV_backward_49 (by decide) ?_
        refine mx_iret dV_backward_50 rfl rfl ?_
        rw [if_neg (fun e => e h46)] at hQ
        exact hQ
    · intro i hi ih
      have ih : mx_W mx_K mT mCl jV_backward (mR 2 43) 6 [.ref 7, .ref 1, .ref 3, .int (nI g), .int ((fun w (s : Int32 × bS) => if ¬ I 12 w = nI g then s else (gJn s.1 (bRd (s.2.2 w) (s.2.1 w - 1)), bTs s.2 w)) i (lp (fun w (s : Int32 × bS) => if ¬ I 12 w = nI g then s else (gJn s.1 (bRd (s.2.2 w) (s.2.1 w - 1)), bTs s.2 w)) i (2, b))).1, .int (nI (i + 1)), .retAddr 0] [] (tPic c fil I L ((fun w (s : Int32 × bS) => if ¬ I 12 w = nI g then s else (gJn s.1 (bRd (s.2.2 w) (s.2.1 w - 1)), bTs s.2 w)) i (lp (fun w (s : Int32 × bS) => if ¬ I 12 w = nI g then s else (gJn s.1 (bRd (s.2.2 w) (s.2.1 w - 1)), bTs s.2 w)) i (2, b))).2) Q := ih
      generalize lp (fun w (s : Int32 × bS) => if ¬ I 12 w = nI g then s else (gJn s.1 (bRd (s.2.2 w) (s.2.1 w - 1)), bTs s.2 w)) i (2, b) = t at ih ⊢
      dsimp only at ih
      refine mx_iload dV_backward_6 rfl ?_
      refine mx_bipush (27) dV_backward_8 (by decide) ?_
      refine mx_icmp_ge 43 dV_backward_10 rfl (fun h10 => ?_) (fun h10 => ?_)
      · exact absurd h10 (nI_ge (b := 27) hi (by decide))
      refine mx_aload_n dV_backward_13 rfl ?_
      refine mx_get 1 3 dV_backward_14 fgV_61 rfl rfl ?_
      refine mx_iload dV_backward_17 rfl ?_
      refine mx_iald dV_backward_19 rfl (vp_in_nI (by omega) (by decide)) ?_
      rw [nI_clamp (by omega)]
      show mx_W mx_K mT mCl jV_backward (mR 2 43) _ _ (.int (I 12 i) :: _) _ _
      refine mx_iload_n dV_backward_20 rfl ?_
      refine mx_icmp_ne 37 dV_backward_21 rfl (fun h21 => ?_) (fun h21 => ?_)
      · first | rw [if_pos h21] at ih | rw [if_neg (fun e => e h21)] at ih
        refine mx_iinc dV_backward_37 rfl (mx_inc _) (Nat.le_of_ble_eq_true rfl) rfl ?_
        refine mx_goto 6 dV_backward_40 rfl ?_
        exact ih
      · refine mx_iload dV_backward_24 rfl ?_
        refine mx_aload_n dV_backward_26 rfl ?_
        refine mx_iload dV_backward_27 rfl ?_
        refine mx_V1 (R' := (mR 1 22)) [_] _ dV_backward_29 rfl mT_G jB_takeAtSource_ok jB_takeAtSource_v lkV_83 ⟨rfl, rfl, Nat.le_of_ble_eq_true rfl, Nat.le_of_ble_eq_true rfl⟩ rfl rfl (Nat.le_of_ble_eq_true rfl) (Nat.le_of_ble_eq_true rfl) rfl rfl rfl (fun Qc qc => cB_takeAtSource tPic_B (vp_in_nI (by omega) (by decide)) qc) ?_
        rw [nI_clamp (by omega), tPic_setl]
        refine mx_S1 (R' := (mR 0 0)) [_, _] _ dV_backward_32 rfl mT_G jV_joined_ok jV_joined_v lkV_86 ⟨rfl, rfl, Nat.le_of_ble_eq_true rfl, Nat.le_of_ble_eq_true rfl⟩ rfl rfl (Nat.le_of_ble_eq_true rfl) (Nat.le_of_ble_eq_true rfl) (fun Qc qc => cV_joined qc) ?_
        refine mx_istore dV_backward_35 (Nat.le_of_ble_eq_true rfl) rfl ?_
        first | rw [if_pos h21] at ih | rw [if_neg (fun e => e h21)] at ih
        refine mx_iinc dV_backward_37 rfl (mx_inc _) (Nat.le_of_ble_eq_true rfl) rfl ?_
        refine mx_goto 6 dV_backward_40 rfl ?_
        exact ih
  refine mx_iconst (2) dV_backward_0 (by decide) ?_
  refine mx_istore dV_backward_1 (Nat.le_of_ble_eq_true rfl) rfl ?_
  refine mx_iconst (0) dV_backward_3 (by decide) ?_
  refine mx_istore dV_backward_4 (Nat.le_of_ble_eq_true rfl) rfl ?_
  exact l1 0 (Nat.zero_le _)
def mDone (c : Nat) (lf : Nat → Int32) : Bool := allB c (fun i => decide (lf (i + 1) = 0))
theorem cV_isDone {c : Nat} {cnt fil : Int32} {I : Nat → Nat → Int32} {L : Nat → Nat → Int64} {Q : mx_O → List va_E → Prop} (hc : c ≤ 12) (hQ : Q (.inl (some (.int (i01 (mDone c (I 23)))))) (pic cnt fil I L)) : mx_W mx_K mT mCl jV_isDone (mR 0 0) 0 [.ref 7, .int (nI c), .retAddr 0] [] (pic cnt fil I L) Q := by
  have hloop : ∀ i, i ≤ c → (∀ j, j < i → I 23 (j + 1) = 0) → mx_W mx_K mT mCl jV_isDone (mR 0 0) 2 [.ref 7, .int (nI c), .int (nI (i + 1))] [] (pic cnt fil I L) Q := by
    refine lp_down ?_ ?_
    · intro hno
      refine mx_iload_n dV_isDone_2 rfl ?_
      refine mx_iload_n dV_isDone_3 rfl ?_
      refine mx_icmp_gt 24 dV_isDone_4 rfl (fun h4 => ?_) (fun h4 => ?_)
      rotate_left
      · exact absurd (nI_lt (Nat.lt_succ_self c) (by omega)) h4
      refine mx_iconst (1) dV_isDone_24 (by decide) ?_
      refine mx_iret dV_isDone_25 rfl rfl ?_
      rw [i01_t (show mDone c (I 23) = true from allB_iff.mpr (fun j hj => decide_eq_true (hno j hj)))] at hQ
      exact hQ
    · intro i hi ih hno
      refine mx_iload_n dV_isDone_2 rfl ?_
      refine mx_iload_n dV_isDone_3 rfl ?_
      refine mx_icmp_gt 24 dV_isDone_4 rfl (fun h4 => ?_) (fun h4 => ?_)
      · exact absurd h4 (nI_nlt (by omega) (by omega))
      refine mx_aload_n dV_isDone_7 rfl ?_
      refine mx_get 6 0 dV_isDone_8 fgV_9 rfl rfl ?_
      refine mx_iload_n dV_isDone_11 rfl ?_
      refine mx_iald dV_isDone_12 rfl (vp_in_nI (by omega) (by decide)) ?_
      rw [nI_clamp (by omega)]
      refine mx_if_eq 18 dV_isDone_13 rfl (fun h13 => ?_) (fun h13 => ?_)
      · refine mx_iinc dV_isDone_18 rfl (mx_inc _) (Nat.le_of_ble_eq_true rfl) rfl ?_
        refine mx_goto 2 dV_isDone_21 rfl ?_
        refine ih (fun j hj => ?_)
        by_cases e : j = i
        · subst e; exact h13
        · exact hno j (by omega)
      · refine mx_iconst (0) dV_isDone_16 (by decide) ?_
        refine mx_iret dV_isDone_17 rfl rfl ?_
        rw [i01_f (show mDone c (I 23) = false from allB_no hi (by simpa using h13))] at hQ
        exact hQ
  refine mx_iconst (1) dV_isDone_0 (by decide) ?_
  refine mx_istore_n dV_isDone_1 (Nat.le_of_ble_eq_true rfl) rfl ?_
  exact hloop 0 (Nat.zero_le _) (fun j hj => absurd hj (Nat.not_lt_zero j))
/-- bank, moves left -/
abbrev mS : Type := bS × (Nat → Int32)
def mPic (c : Nat) (fil : Int32) (I : Nat → Nat → Int32) (L : Nat → Nat → Int64) (s : mS) : List va_E := tPic c fil (upI I 23 s.2) L s.1
theorem mPic_left {c : Nat} {fil : Int32} {I : Nat → Nat → Int32} {L : Nat → Nat → Int64} {s : mS} (f : Nat → Int32) : (mPic c fil I L s).set 23 (eI 13 f) = mPic c fil I L (s.1, f) := by
  unfold mPic tPic
  rw [pic_23, upI_comm _ _ _ (by decide : (15 : Nat) ≠ 23), upI_upI]
def mStep (kd sr : Nat → Int32) (g : Nat) (s : mS) : mS × Bool :=
  if ¬ 0 ≤ s.2 g ∧ canF kd s.1.1 g = true then ((mFwd kd sr g s.1, upd s.2 g (s.2 g + 1)), true)
  else if ¬ s.2 g ≤ 0 ∧ canB sr s.1.1 g = true then (((mBwd kd sr g s.1).1, upd s.2 g (s.2 g - 1)), (mBwd kd sr g s.1).2)
  else (s, true)
/-- a loop that a false ends -/
def lpB {α : Type} (f : Nat → α → α × Bool) : Nat → Nat → α → α × Bool
  | 0, _, s => (s, true)
  | n + 1, i, s => if (f i s).2 = true then lpB f n (i + 1) (f i s).1 else f i s
def mEach (kd sr : Nat → Int32) (c : Nat) (s : mS) : mS × Bool := lpB (fun i s => mStep kd sr (i + 1) s) c 0 s
theorem cV_moveEach {c : Nat} {fil : Int32} {I : Nat → Nat → Int32} {L : Nat → Nat → Int64} {Q : mx_O → List va_E → Prop} (hc : c ≤ 12) {s : mS} (hQ : Q (.inl (some (.int (i01 (mEach (I 10) (I 12) c s).2)))) (mPic c fil I L (mEach (I 10) (I 12) c s).1)) : mx_W mx_K mT mCl jV_moveEach (mR 3 75) 0 [.ref 7, .ref 1, .ref 3, .retAddr 0] [] (mPic c fil I L s) Q := by
  have hloop : ∀ i, i ≤ c → ∀ s : mS, Q (.inl (some (.int (i01 (lpB (fun i s => mStep (I 10) (I 12) (i + 1) s) (c - i) i s).2)))) (mPic c fil I L (lpB (fun i s => mStep (I 10) (I 12) (i + 1) s) (c - i) i s).1) → mx_W mx_K mT mCl jV_moveEach (mR 3 75) 2 [.ref 7, .ref 1, .ref 3, .int (nI (i + 1))] [] (mPic c fil I L s) Q := by
    refine lp_down ?_ ?_
    · intro s hq
      rw [Nat.sub_self] at hq
      refine mx_iload_n dV_moveEach_2 rfl ?_
      refine mx_aload_n dV_moveEach_3 rfl ?_
      refine mx_get 1 0 dV_moveEach_4 fgV_15 rfl rfl ?_
      refine mx_icmp_gt 96 dV_moveEach_7 rfl (fun h7 => ?_) (fun h7 => ?_)
      rotate_left
      · exact absurd (nI_lt (Nat.lt_succ_self c) (by omega)) h7
      refine mx_iconst (1) dV_moveEach_96 (by decide) ?_
      refine mx_iret dV_moveEach_97 rfl rfl ?_
      exact hq
    · intro i hi ih s hq
      rw [show c - i = (c - (i + 1)) + 1 by omega] at hq
      unfold lpB at hq
      (try dsimp only at hq)
      have hnx : mx_W mx_K mT mCl jV_moveEach (mR 3 75) 2 [.ref 7, .ref 1, .ref 3, .int (nI (i + 1 + 1))] [] (mPic c fil I L (mStep (I 10) (I 12) (i + 1) s).1) Q ∨ (mStep (I 10) (I 12) (i + 1) s).2 = false := by
        cases e : (mStep (I 10) (I 12) (i + 1) s).2 with
        | false => exact Or.inr rfl
        | true =>
          rw [if_pos e] at hq
          exact Or.inl (ih _ hq)
      have hback : mx_W mx_K mT mCl jV_moveEach (mR 3 75) 49 [.ref 7, .ref 1, .ref 3, .int (nI (i + 1))] [] (mPic c fil I L s) Q ∨ (¬ 0 ≤ s.2 (i + 1) ∧ canF (I 10) s.1.1 (i + 1) = true) := by
        by_cases e0 : ¬ 0 ≤ s.2 (i + 1) ∧ canF (I 10) s.1.1 (i + 1) = true
        · exact Or.inr e0
        · refine Or.inl ?_
          refine mx_aload_n dV_moveEach_49 rfl ?_
          refine mx_get 6 0 dV_moveEach_50 fgV_9 rfl rfl ?_
          refine mx_iload_n dV_moveEach_53 rfl ?_
          refine mx_iald dV_moveEach_54 rfl (vp_in_nI (by omega) (by decide)) ?_
          rw [nI_clamp (by omega)]
          show mx_W mx_K mT mCl jV_moveEach (mR 3 75) _ _ (.int (s.2 (i + 1)) :: _) _ _
          refine mx_if_le 90 dV_moveEach_55 rfl (fun h55 => ?_) (fun h55 => ?_)
          · have e1 : mStep (I 10) (I 12) (i + 1) s = (s, true) := by unfold mStep; rw [if_neg e0, if_neg (fun e => e.1 h55)]
            rw [e1] at hnx
            rcases hnx with hnx | hnx
            · refine mx_iinc dV_moveEach_90 rfl (mx_inc _) (Nat.le_of_ble_eq_true rfl) rfl ?_
              refine mx_goto 2 dV_moveEach_93 rfl ?_
              exact hnx
            · cases hnx
          · refine mx_aload_n dV_moveEach_58 rfl ?_
            refine mx_aload_n dV_moveEach_59 rfl ?_
            refine mx_aload_n dV_moveEach_60 rfl ?_
            refine mx_iload_n dV_moveEach_61 rfl ?_
            refine mx_V1 (R' := (mR 1 21)) [_, _, _] _ dV_moveEach_62 rfl mT_G jV_canBackward_ok jV_canBackward_v lkV_43 ⟨rfl, rfl, Nat.le_of_ble_eq_true rfl, Nat.le_of_ble_eq_true rfl⟩ rfl rfl (Nat.le_of_ble_eq_true rfl) (Nat.le_of_ble_eq_true rfl) rfl rfl rfl (fun Qc qc => cV_canBackward (I := upI I 23 s.2) qc) ?_
            refine mx_if_eq 90 dV_moveEach_65 rfl (fun h65 => ?_) (fun h65 => ?_)
            · have e2 : canB (I 12) s.1.1 (i + 1) = false := i01_z h65
              have e1 : mStep (I 10) (I 12) (i + 1) s = (s, true) := by unfold mStep; rw [if_neg e0, if_neg (fun e => by rw [e2] at e; cases e.2)]
              rw [e1] at hnx
              rcases hnx with hnx | hnx
              · refine mx_iinc dV_moveEach_90 rfl (mx_inc _) (Nat.le_of_ble_eq_true rfl) rfl ?_
                refine mx_goto 2 dV_moveEach_93 rfl ?_
                exact hnx
              · cases hnx
            · refine mx_aload_n dV_moveEach_68 rfl ?_
              refine mx_get 6 0 dV_moveEach_69 fgV_9 rfl rfl ?_
              refine mx_iload_n dV_moveEach_72 rfl ?_
              refine mx_dup2 dV_moveEach_73 rfl rfl ?_
              refine mx_iald dV_moveEach_74 rfl (vp_in_nI (by omega) (by decide)) ?_
              rw [nI_clamp (by omega)]
              show mx_W mx_K mT mCl jV_moveEach (mR 3 75) _ _ (.int (s.2 (i + 1)) :: _) _ _
              refine mx_iconst (1) dV_moveEach_75 (by decide) ?_
              refine mx_isub dV_moveEach_76 ?_
              refine mx_iast dV_moveEach_77 rfl (vp_in_nI (by omega) (by decide)) ?_
              rw [nI_clamp (by omega)]
              refine mx_eqs rfl rfl rfl (mPic_left _) ?_
              refine mx_aload_n dV_moveEach_78 rfl ?_
              refine mx_aload_n dV_moveEach_79 rfl ?_
              refine mx_aload_n dV_moveEach_80 rfl ?_
              refine mx_iload_n dV_moveEach_81 rfl ?_
              refine mx_V1 (R' := (mR 2 43)) [_, _, _] _ dV_moveEach_82 rfl mT_G jV_backward_ok jV_backward_v lkV_46 ⟨rfl, rfl, Nat.le_of_ble_eq_true rfl, Nat.le_of_ble_eq_true rfl⟩ rfl rfl (Nat.le_of_ble_eq_true rfl) (Nat.le_of_ble_eq_true rfl) rfl rfl rfl (fun Qc qc => cV_backward (I := upI I 23 (upd s.2 (i + 1) (s.2 (i + 1) - 1))) (by omega) (by omega) qc) ?_
              refine mx_if_ne 90 dV_moveEach_85 rfl (fun h85 => ?_) (fun h85 => ?_)
              · have e2 : canB (I 12) s.1.1 (i + 1) = true := i01_nz h65
                have e1 : mStep (I 10) (I 12) (i + 1) s = (((mBwd (I 10) (I 12) (i + 1) s.1).1, upd s.2 (i + 1) (s.2 (i + 1) - 1)), (mBwd (I 10) (I 12) (i + 1) s.1).2) := by unfold mStep; rw [if_neg e0, if_pos ⟨h55, e2⟩]
                have e3 : (mBwd (I 10) (I 12) (i + 1) s.1).2 = true := i01_nz h85
                rw [e1] at hnx
                rcases hnx with hnx | hnx
                · refine mx_iinc dV_moveEach_90 rfl (mx_inc _) (Nat.le_of_ble_eq_true rfl) rfl ?_
                  refine mx_goto 2 dV_moveEach_93 rfl ?_
                  exact hnx
                · dsimp only at hnx; rw [e3] at hnx; cases hnx
              · refine mx_iconst (0) dV_moveEach_88 (by decide) ?_
                refine mx_iret dV_moveEach_89 rfl rfl ?_
                have e2 : canB (I 12) s.1.1 (i + 1) = true := i01_nz h65
                have e1 : mStep (I 10) (I 12) (i + 1) s = (((mBwd (I 10) (I 12) (i + 1) s.1).1, upd s.2 (i + 1) (s.2 (i + 1) - 1)), (mBwd (I 10) (I 12) (i + 1) s.1).2) := by unfold mStep; rw [if_neg e0, if_pos ⟨h55, e2⟩]
                have e3 : (mBwd (I 10) (I 12) (i + 1) s.1).2 = false := i01_z h85
                rw [e1] at hq
                (try dsimp only at hq)
                rw [e3] at hq
                exact hq
      refine mx_iload_n dV_moveEach_2 rfl ?_
      refine mx_aload_n dV_moveEach_3 rfl ?_
      refine mx_get 1 0 dV_moveEach_4 fgV_15 rfl rfl ?_
      refine mx_icmp_gt 96 dV_moveEach_7 rfl (fun h7 => ?_) (fun h7 => ?_)
      · exact absurd h7 (nI_nlt (by omega) (by omega))
      refine mx_aload_n dV_moveEach_10 rfl ?_
      refine mx_get 6 0 dV_moveEach_11 fgV_9 rfl rfl ?_
      refine mx_iload_n dV_moveEach_14 rfl ?_
      refine mx_iald dV_moveEach_15 rfl (vp_in_nI (by omega) (by decide)) ?_
      rw [nI_clamp (by omega)]
      show mx_W mx_K mT mCl jV_moveEach (mR 3 75) _ _ (.int (s.2 (i + 1)) :: _) _ _
      refine mx_if_ge 49 dV_moveEach_16 rfl (fun h16 => ?_) (fun h16 => ?_)
      · rcases hback with hb | hb
        · exact hb
        · exact absurd h16 hb.1
      · refine mx_aload_n dV_moveEach_19 rfl ?_
        refine mx_aload_n dV_moveEach_20 rfl ?_
        refine mx_aload_n dV_moveEach_21 rfl ?_
        refine mx_iload_n dV_moveEach_22 rfl ?_
        refine mx_V1 (R' := (mR 2 42)) [_, _, _] _ dV_moveEach_23 rfl mT_G jV_canForward_ok jV_canForward_v lkV_35 ⟨rfl, rfl, Nat.le_of_ble_eq_true rfl, Nat.le_of_ble_eq_true rfl⟩ rfl rfl (Nat.le_of_ble_eq_true rfl) (Nat.le_of_ble_eq_true rfl) rfl rfl rfl (fun Qc qc => cV_canForward (I := upI I 23 s.2) (by omega) (by omega) qc) ?_
        refine mx_if_eq 49 dV_moveEach_26 rfl (fun h26 => ?_) (fun h26 => ?_)
        · rcases hback with hb | hb
          · exact hb
          · exact absurd hb.2 (by rw [show canF (I 10) s.1.1 (i + 1) = false from i01_z h26]; decide)
        · refine mx_aload_n dV_moveEach_29 rfl ?_
          refine mx_get 6 0 dV_moveEach_30 fgV_9 rfl rfl ?_
          refine mx_iload_n dV_moveEach_33 rfl ?_
          refine mx_dup2 dV_moveEach_34 rfl rfl ?_
          refine mx_iald dV_moveEach_35 rfl (vp_in_nI (by omega) (by decide)) ?_
          rw [nI_clamp (by omega)]
          show mx_W mx_K mT mCl jV_moveEach (mR 3 75) _ _ (.int (s.2 (i + 1)) :: _) _ _
          refine mx_iconst (1) dV_moveEach_36 (by decide) ?_
          refine mx_iadd dV_moveEach_37 ?_
          refine mx_iast dV_moveEach_38 rfl (vp_in_nI (by omega) (by decide)) ?_
          rw [nI_clamp (by omega)]
          refine mx_eqs rfl rfl rfl (mPic_left _) ?_
          refine mx_aload_n dV_moveEach_39 rfl ?_
          refine mx_aload_n dV_moveEach_40 rfl ?_
          refine mx_aload_n dV_moveEach_41 rfl ?_
          refine mx_iload_n dV_moveEach_42 rfl ?_
          refine mx_V1 (R' := (mR 2 47)) [_, _, _] _ dV_moveEach_43 rfl mT_G jV_forward_ok jV_forward_v lkV_39 ⟨rfl, rfl, Nat.le_of_ble_eq_true rfl, Nat.le_of_ble_eq_true rfl⟩ rfl rfl (Nat.le_of_ble_eq_true rfl) (Nat.le_of_ble_eq_true rfl) rfl rfl rfl (fun Qc qc => cV_forward (I := upI I 23 (upd s.2 (i + 1) (s.2 (i + 1) + 1))) (by omega) (by omega) qc) ?_
          refine mx_goto 90 dV_moveEach_46 rfl ?_
          have e0 : ¬ 0 ≤ s.2 (i + 1) ∧ canF (I 10) s.1.1 (i + 1) = true := ⟨h16, i01_nz h26⟩
          have e1 : mStep (I 10) (I 12) (i + 1) s = ((mFwd (I 10) (I 12) (i + 1) s.1, upd s.2 (i + 1) (s.2 (i + 1) + 1)), true) := by unfold mStep; rw [if_pos e0]
          rw [e1] at hnx
          rcases hnx with hnx | hnx
          · refine mx_iinc dV_moveEach_90 rfl (mx_inc _) (Nat.le_of_ble_eq_true rfl) rfl ?_
            refine mx_goto 2 dV_moveEach_93 rfl ?_
            exact hnx
          · cases hnx
  refine mx_iconst (1) dV_moveEach_0 (by decide) ?_
  refine mx_istore_n dV_moveEach_1 (Nat.le_of_ble_eq_true rfl) rfl ?_
  exact hloop 0 (Nat.zero_le _) s hQ
def mRun (kd sr : Nat → Int32) (c : Nat) : Nat → mS → mS × Bool
  | 0, s => (s, false)
  | n + 1, s => if mDone c s.2 = true then (s, true) else if (mEach kd sr c s).2 = true then mRun kd sr c n (mEach kd sr c s).1 else ((mEach kd sr c s).1, false)
/-- what Mover.follow does -/
def mFol (c : Nat) (I : Nat → Nat → Int32) (L : Nat → Nat → Int64) : mS × Bool := mRun (I 10) (I 12) c 73 ((I 15, L 16), va_cpy (I 21) (I 23) 0 0 (c + 1))
theorem mPic_own {c : Nat} {fil : Int32} {I : Nat → Nat → Int32} {L : Nat → Nat → Int64} (f : Nat → Int32) : mPic c fil I L ((I 15, L 16), f) = pic (nI c) fil (upI I 23 f) L := by
  unfold mPic tPic
  show pic (nI c) fil (upI (upI I 23 f) 15 (upI I 23 f 15)) (upL L 16 (L 16)) = _
  rw [upI_own, upL_own]
theorem cV_follow {c : Nat} {fil : Int32} {I : Nat → Nat → Int32} {L : Nat → Nat → Int64} {Q : mx_O → List va_E → Prop} (hc : c ≤ 12) (hQ : Q (.inl (some (.int (i01 (mFol c I L).2)))) (mPic c fil I L (mFol c I L).1)) : mx_W mx_K mT mCl jV_follow (mR 4 98) 0 [.ref 7, .ref 1, .ref 3, .ref 21, .retAddr 0] [] (pic (nI c) fil I L) Q := by
  have hloop : ∀ r, r ≤ 73 → ∀ s : mS, Q (.inl (some (.int (i01 (mRun (I 10) (I 12) c (73 - r) s).2)))) (mPic c fil I L (mRun (I 10) (I 12) c (73 - r) s).1) → mx_W mx_K mT mCl jV_follow (mR 4 98) 19 [.ref 7, .ref 1, .ref 3, .ref 21, .int (nI r)] [] (mPic c fil I L s) Q := by
    refine lp_down ?_ ?_
    · intro s hq
      rw [Nat.sub_self] at hq
      refine mx_iload dV_follow_19 rfl ?_
      refine mx_bipush (72) dV_follow_21 (by decide) ?_
      refine mx_icmp_gt 56 dV_follow_23 rfl (fun h23 => ?_) (fun h23 => ?_)
      rotate_left
      · exact absurd (show (72 : Int32) < nI 73 by decide) h23
      refine mx_iconst (0) dV_follow_56 (by decide) ?_
      refine mx_iret dV_follow_57 rfl rfl ?_
      exact hq
    · intro r hr ih s hq
      rw [show 73 - r = (73 - (r + 1)) + 1 by omega] at hq
      unfold mRun at hq
      refine mx_iload dV_follow_19 rfl ?_
      refine mx_bipush (72) dV_follow_21 (by decide) ?_
      refine mx_icmp_gt 56 dV_follow_23 rfl (fun h23 => ?_) (fun h23 => ?_)
      · exact absurd h23 (nI_nlt (b := r) (a := 72) (by omega) (by decide))
      refine mx_aload_n dV_follow_26 rfl ?_
      refine mx_aload_n dV_follow_27 rfl ?_
      refine mx_get 1 0 dV_follow_28 fgV_15 rfl rfl ?_
      refine mx_V1 (R' := (mR 0 0)) [_] _ dV_follow_31 rfl mT_G jV_isDone_ok jV_isDone_v lkV_27 ⟨rfl, rfl, Nat.le_of_ble_eq_true rfl, Nat.le_of_ble_eq_true rfl⟩ rfl rfl (Nat.le_of_ble_eq_true rfl) (Nat.le_of_ble_eq_true rfl) rfl rfl rfl (fun Qc qc => cV_isDone (I := upI (upI I 23 s.2) 15 s.1.1) hc qc) ?_
      refine mx_if_eq 39 dV_follow_34 rfl (fun h34 => ?_) (fun h34 => ?_)
      · refine mx_aload_n dV_follow_39 rfl ?_
        refine mx_aload_n dV_follow_40 rfl ?_
        refine mx_aload_n dV_follow_41 rfl ?_
        refine mx_V1 (R' := (mR 3 75)) [_, _] _ dV_follow_42 rfl mT_G jV_moveEach_ok jV_moveEach_v lkV_31 ⟨rfl, rfl, Nat.le_of_ble_eq_true rfl, Nat.le_of_ble_eq_true rfl⟩ rfl rfl (Nat.le_of_ble_eq_true rfl) (Nat.le_of_ble_eq_true rfl) rfl rfl rfl (fun Qc qc => cV_moveEach hc qc) ?_
        refine mx_if_ne 50 dV_follow_45 rfl (fun h45 => ?_) (fun h45 => ?_)
        · have e2 : ¬ mDone c s.2 = true := by rw [show mDone c s.2 = false from i01_z h34]; decide
          rw [if_neg e2, if_pos (i01_nz h45)] at hq
          refine mx_iinc dV_follow_50 rfl (mx_inc _) (Nat.le_of_ble_eq_true rfl) rfl ?_
          refine mx_goto 19 dV_follow_53 rfl ?_
          exact ih _ hq
        · refine mx_iconst (0) dV_follow_48 (by decide) ?_
          refine mx_iret dV_follow_49 rfl rfl ?_
          have e2 : ¬ mDone c s.2 = true := by rw [show mDone c s.2 = false from i01_z h34]; decide
          rw [if_neg e2, if_neg (by rw [i01_z h45]; decide)] at hq
          exact hq
      · refine mx_iconst (1) dV_follow_37 (by decide) ?_
        refine mx_iret dV_follow_38 rfl rfl ?_
        have e2 : mDone c s.2 = true := i01_nz h34
        rw [if_pos e2] at hq
        exact hq
  refine mx_aload_n dV_follow_0 rfl ?_
  refine mx_iconst (0) dV_follow_1 (by decide) ?_
  refine mx_aload_n dV_follow_2 rfl ?_
  refine mx_get 6 0 dV_follow_3 fgV_9 rfl rfl ?_
  refine mx_iconst (0) dV_follow_6 (by decide) ?_
  refine mx_aload_n dV_follow_7 rfl ?_
  refine mx_get 1 0 dV_follow_8 fgV_15 rfl rfl ?_
  refine mx_iconst (1) dV_follow_11 (by decide) ?_
  refine mx_iadd dV_follow_12 ?_
  rw [show nI c + 1 = nI (c + 1) from nI_1 c]
  refine mx_copyi dV_follow_13 (mT_3 (i := 100) rfl rfl) (mT_2 (i := 15) rfl rfl) (mT_2 (i := 14) rfl rfl) (mT_1 (i := 15) rfl rfl) (b0 := 21) (b1 := 23) rfl rfl (by decide) (by decide) (nI_pos (by omega)) (by rw [nI_clamp (by omega), sb_cl0]; omega) (by rw [nI_clamp (by omega), sb_cl0]; omega) (Nat.le_of_ble_eq_true rfl) (Nat.le_of_ble_eq_true rfl) ?_
  refine mx_iconst (0) dV_follow_16 (by decide) ?_
  refine mx_istore dV_follow_17 (Nat.le_of_ble_eq_true rfl) rfl ?_
  rw [nI_clamp (by omega), sb_cl0]
  refine mx_eqs rfl rfl rfl ?_ (hloop 0 (Nat.zero_le _) _ hQ)
  rw [mPic_own]
  exact pic_23 _
end
section
/-! Clock. -/
def cIn (V : Nat → Int32) (a b d : Int32) : Nat → Int32 := upd (upd (upd V 2 a) 1 b) 0 d
def cV (sr ln : Nat → Int32) (vl : Nat → Int64) (V : Nat → Int32) (w : Nat) : Int32 := if ln w ≤ 0 then V (3 + sr w).toNatClampNeg else bRd (vl w) 0
theorem cC_setInputs {c : Nat} {fil : Int32} {I : Nat → Nat → Int32} {L : Nat → Nat → Int64} {Q : mx_O → List va_E → Prop} {x y z : Int32} (hQ : Q (.inl none) (pic (nI c) fil (upI I 25 (cIn (I 25) x y z)) L)) : mx_W mx_K mT mCl jC_setInputs (mR 0 0) 0 [.ref 8, .int x, .int y, .int z] [] (pic (nI c) fil I L) Q := by
  refine mx_aload_n dC_setInputs_0 rfl ?_
  refine mx_get 7 1 dC_setInputs_1 fgC_18 rfl rfl ?_
  refine mx_iconst (2) dC_setInputs_4 (by decide) ?_
  refine mx_iload_n dC_setInputs_5 rfl ?_
  refine mx_iast dC_setInputs_6 rfl (vp_in_nI (n := 2) (by decide) (by decide)) ?_
  rw [show (2 : Int32).toNatClampNeg = 2 from by decide]
  refine mx_eqs rfl rfl rfl (pic_25 _) ?_
  refine mx_aload_n dC_setInputs_7 rfl ?_
  refine mx_get 7 1 dC_setInputs_8 fgC_18 rfl rfl ?_
  refine mx_iconst (1) dC_setInputs_11 (by decide) ?_
  refine mx_iload_n dC_setInputs_12 rfl ?_
  refine mx_iast dC_setInputs_13 rfl (vp_in_nI (n := 1) (by decide) (by decide)) ?_
  rw [show (1 : Int32).toNatClampNeg = 1 from by decide]
  refine mx_eqs rfl rfl rfl (pic_25 _) ?_
  rw [upI_upI, upI_self]
  refine mx_aload_n dC_setInputs_14 rfl ?_
  refine mx_get 7 1 dC_setInputs_15 fgC_18 rfl rfl ?_
  refine mx_iconst (0) dC_setInputs_18 (by decide) ?_
  refine mx_iload_n dC_setInputs_19 rfl ?_
  refine mx_iast dC_setInputs_20 rfl (vp_in_nI (n := 0) (by decide) (by decide)) ?_
  refine mx_vret dC_setInputs_21 rfl ?_
  rw [show (0 : Int32).toNatClampNeg = 0 from by decide]
  show Q (.inl none) ((pic (nI c) fil (upI I 25 (upd (upd (I 25) 2 x) 1 y)) L).set 25 (eI 16 (upd (upI I 25 (upd (upd (I 25) 2 x) 1 y) 25) 0 z)))
  rw [pic_25, upI_upI, upI_self]
  exact hQ
theorem cC_valueOf {c : Nat} {fil : Int32} {I : Nat → Nat → Int32} {L : Nat → Nat → Int64} {Q : mx_O → List va_E → Prop} {w : Nat} (hw : w < 27) (hv : vp_in (3 + I 12 w) 16) (hQ : Q (.inl (some (.int (cV (I 12) (I 65) (L 66) (I 25) w)))) (pic (nI c) fil I L)) : mx_W mx_K mT mCl jC_valueOf (mR 1 22) 0 [.ref 8, .ref 1, .int (nI w)] [] (pic (nI c) fil I L) Q := by
  unfold cV at hQ
  refine mx_aload_n dC_valueOf_0 rfl ?_
  refine mx_get 7 0 dC_valueOf_1 fgC_12 rfl rfl ?_
  refine mx_iload_n dC_valueOf_4 rfl ?_
  refine mx_V1 (R' := (mR 0 0)) [_] _ dC_valueOf_5 rfl mT_G jB_length_ok jB_length_v lkC_60 ⟨rfl, rfl, Nat.le_of_ble_eq_true rfl, Nat.le_of_ble_eq_true rfl⟩ rfl rfl (Nat.le_of_ble_eq_true rfl) (Nat.le_of_ble_eq_true rfl) rfl rfl rfl (fun Qc qc => cB_length pic_S (vp_in_nI (by omega) (by decide)) qc) ?_
  rw [nI_clamp (by omega)]
  refine mx_if_le 23 dC_valueOf_8 rfl (fun h8 => ?_) (fun h8 => ?_)
  · refine mx_aload_n dC_valueOf_23 rfl ?_
    refine mx_get 7 1 dC_valueOf_24 fgC_18 rfl rfl ?_
    refine mx_iconst (3) dC_valueOf_27 (by decide) ?_
    refine mx_aload_n dC_valueOf_28 rfl ?_
    refine mx_get 1 3 dC_valueOf_29 fgC_57 rfl rfl ?_
    refine mx_iload_n dC_valueOf_32 rfl ?_
    refine mx_iald dC_valueOf_33 rfl (vp_in_nI (by omega) (by decide)) ?_
    rw [nI_clamp (by omega)]
    refine mx_iadd dC_valueOf_34 ?_
    refine mx_iald dC_valueOf_35 rfl hv ?_
    refine mx_iret dC_valueOf_36 rfl rfl ?_
    first | rw [if_pos h8] at hQ | rw [if_neg h8] at hQ
    exact hQ
  · refine mx_aload_n dC_valueOf_11 rfl ?_
    refine mx_get 7 0 dC_valueOf_12 fgC_12 rfl rfl ?_
    refine mx_iload_n dC_valueOf_15 rfl ?_
    refine mx_iconst (0) dC_valueOf_16 (by decide) ?_
    refine mx_V1 (R' := (mR 0 0)) [_, _] _ dC_valueOf_17 rfl mT_G jB_read_ok jB_read_v lkC_70 ⟨rfl, rfl, Nat.le_of_ble_eq_true rfl, Nat.le_of_ble_eq_true rfl⟩ rfl rfl (Nat.le_of_ble_eq_true rfl) (Nat.le_of_ble_eq_true rfl) rfl rfl rfl (fun Qc qc => cB_read pic_S (vp_in_nI (by omega) (by decide)) qc) ?_
    rw [nI_clamp (by omega)]
    refine mx_goto 36 dC_valueOf_20 rfl ?_
    refine mx_iret dC_valueOf_36 rfl rfl ?_
    first | rw [if_pos h8] at hQ | rw [if_neg h8] at hQ
    exact hQ
def sStep (kd sr ln : Nat → Int32) (vl : Nat → Int64) (g : Nat) (V : Nat → Int32) : Nat → Int32 := upd V (3 + g) (gMade (kd g) (cV sr ln vl V (2 * g - 2)) (if ¬ nI (pn kd g) = 2 then 2 else cV sr ln vl V (2 * g - 2 + 1)))
def cSet (kd sr ln : Nat → Int32) (vl : Nat → Int64) (pl : Nat → Nat) (n : Nat) (V : Nat → Int32) : Nat → Int32 := lp (fun a V => sStep kd sr ln vl (pl a) V) n V
theorem cC_settle {c : Nat} {fil : Int32} {I : Nat → Nat → Int32} {L : Nat → Nat → Int64} {Q : mx_O → List va_E → Prop} (hc : c ≤ 12) {pl : Nat → Nat} (hpl : ∀ a, a < c → 1 ≤ pl a ∧ pl a ≤ 12 ∧ I 17 a = nI (pl a)) (hv : ∀ w, w < 27 → vp_in (3 + I 12 w) 16) (hQ : Q (.inl none) (pic (nI c) fil (upI I 25 (cSet (I 10) (I 12) (I 65) (L 66) pl c (I 25))) L)) : mx_W mx_K mT mCl jC_settle (mR 2 44) 0 [.ref 8, .ref 1, .ref 4, .retAddr 0, .retAddr 0, .retAddr 0, .retAddr 0, .retAddr 0] [] (pic (nI c) fil I L) Q := by
  have hloop : ∀ i, i ≤ c → mx_W mx_K mT mCl jC_settle (mR 2 44) 2 [.ref 8, .ref 1, .ref 4, .int (nI i), .retAddr 0, .retAddr 0, .retAddr 0, .retAddr 0] [] (pic (nI c) fil (upI I 25 (lp (fun a V => sStep (I 10) (I 12) (I 65) (L 66) (pl a) V) i (I 25))) L) Q := by
    refine lp_down ?_ ?_
    · refine mx_iload_n dC_settle_2 rfl ?_
      refine mx_aload_n dC_settle_3 rfl ?_
      refine mx_get 1 0 dC_settle_4 fgC_26 rfl rfl ?_
      refine mx_icmp_ge 89 dC_settle_7 rfl (fun h7 => ?_) (fun h7 => ?_)
      rotate_left
      · exact absurd (nI_le (Nat.le_refl c) (by omega)) h7
      refine mx_vret dC_settle_89 rfl ?_
      exact hQ
    · intro i hi ih
      obtain ⟨g1, g2, eg⟩ := hpl i hi
      have ih : mx_W mx_K mT mCl jC_settle (mR 2 44) 2 [.ref 8, .ref 1, .ref 4, .int (nI (i + 1)), .retAddr 0, .retAddr 0, .retAddr 0, .retAddr 0] [] (pic (nI c) fil (upI I 25 (sStep (I 10) (I 12) (I 65) (L 66) (pl i) (lp (fun a V => sStep (I 10) (I 12) (I 65) (L 66) (pl a) V) i (I 25)))) L) Q := ih
      generalize lp (fun a V => sStep (I 10) (I 12) (I 65) (L 66) (pl a) V) i (I 25) = V at ih ⊢
      generalize pl i = g at g1 g2 eg ih
      have hp2 := pn_le (I 10) g
      unfold sStep at ih
      have hg : vp_in (nI g) 13 := (vp_in_nI (by omega) (by decide))
      refine mx_iload_n dC_settle_2 rfl ?_
      refine mx_aload_n dC_settle_3 rfl ?_
      refine mx_get 1 0 dC_settle_4 fgC_26 rfl rfl ?_
      refine mx_icmp_ge 89 dC_settle_7 rfl (fun h7 => ?_) (fun h7 => ?_)
      · exact absurd h7 (nI_ge hi (by omega))
      refine mx_aload_n dC_settle_10 rfl ?_
      refine mx_get 3 0 dC_settle_11 fgC_32 rfl rfl ?_
      refine mx_iload_n dC_settle_14 rfl ?_
      refine mx_iald dC_settle_15 rfl (vp_in_nI (by omega) (by decide)) ?_
      rw [nI_clamp (by omega)]
      show mx_W mx_K mT mCl jC_settle (mR 2 44) _ _ (.int (I 17 i) :: _) _ _
      rw [eg]
      refine mx_istore dC_settle_16 (Nat.le_of_ble_eq_true rfl) rfl ?_
      refine mx_aload_n dC_settle_18 rfl ?_
      refine mx_iload dC_settle_19 rfl ?_
      refine mx_V1 (R' := (mR 0 0)) [_] _ dC_settle_21 rfl mT_G jP_firstPin_ok jP_firstPin_v lkC_37 ⟨rfl, rfl, Nat.le_of_ble_eq_true rfl, Nat.le_of_ble_eq_true rfl⟩ rfl rfl (Nat.le_of_ble_eq_true rfl) (Nat.le_of_ble_eq_true rfl) rfl rfl rfl (fun Qc qc => cP_firstPin qc) ?_
      rw [fp_nat g1]
      refine mx_istore dC_settle_24 (Nat.le_of_ble_eq_true rfl) rfl ?_
      refine mx_aload_n dC_settle_26 rfl ?_
      refine mx_aload_n dC_settle_27 rfl ?_
      refine mx_iload dC_settle_28 rfl ?_
      refine mx_V1 (R' := (mR 1 22)) [_, _] _ dC_settle_30 rfl mT_G jC_valueOf_ok jC_valueOf_v lkC_41 ⟨rfl, rfl, Nat.le_of_ble_eq_true rfl, Nat.le_of_ble_eq_true rfl⟩ rfl rfl (Nat.le_of_ble_eq_true rfl) (Nat.le_of_ble_eq_true rfl) rfl rfl rfl (fun Qc qc => cC_valueOf (I := upI I 25 V) (by omega) (hv _ (by omega)) qc) ?_
      rw [show cV (upI I 25 V 12) (upI I 25 V 65) (L 66) (upI I 25 V 25) (2 * g - 2) = cV (I 12) (I 65) (L 66) V (2 * g - 2) from rfl]
      refine mx_istore dC_settle_33 (Nat.le_of_ble_eq_true rfl) rfl ?_
      refine mx_aload_n dC_settle_35 rfl ?_
      refine mx_iload dC_settle_36 rfl ?_
      refine mx_V1 (R' := (mR 0 0)) [_] _ dC_settle_38 rfl mT_G jP_pinsOf_ok jP_pinsOf_v lkC_45 ⟨rfl, rfl, Nat.le_of_ble_eq_true rfl, Nat.le_of_ble_eq_true rfl⟩ rfl rfl (Nat.le_of_ble_eq_true rfl) (Nat.le_of_ble_eq_true rfl) rfl rfl rfl (fun Qc qc => cP_pinsOf pic_P hg qc) ?_
      rw [show qP_pinsOf (upI I 25 V 10) (nI g) = qP_pinsOf (I 10) (nI g) from rfl, pn_nat (by omega)]
      refine mx_iconst (2) dC_settle_41 (by decide) ?_
      refine mx_icmp_ne 57 dC_settle_42 rfl (fun h42 => ?_) (fun h42 => ?_)
      · refine mx_iconst (2) dC_settle_57 (by decide) ?_
        refine mx_istore dC_settle_58 (Nat.le_of_ble_eq_true rfl) rfl ?_
        refine mx_aload_n dC_settle_60 rfl ?_
        refine mx_get 7 1 dC_settle_61 fgC_18 rfl rfl ?_
        refine mx_iconst (3) dC_settle_64 (by decide) ?_
        refine mx_iload dC_settle_65 rfl ?_
        refine mx_iadd dC_settle_67 ?_
        rw [show (3 : Int32) = nI 3 from rfl, nI_add]
        refine mx_aload_n dC_settle_68 rfl ?_
        refine mx_get 1 1 dC_settle_69 fgC_48 rfl rfl ?_
        refine mx_iload dC_settle_72 rfl ?_
        refine mx_iald dC_settle_74 rfl hg ?_
        rw [nI_clamp (by omega), show upI I 25 V 10 g = I 10 g from rfl]
        refine mx_iload dC_settle_75 rfl ?_
        refine mx_iload dC_settle_77 rfl ?_
        refine mx_S1 (R' := (mR 1 22)) [_, _, _] _ dC_settle_79 rfl mT_G jG_made_ok jG_made_v lkC_51 ⟨rfl, rfl, Nat.le_of_ble_eq_true rfl, Nat.le_of_ble_eq_true rfl⟩ rfl rfl (Nat.le_of_ble_eq_true rfl) (Nat.le_of_ble_eq_true rfl) (fun Qc qc => cG_made qc) ?_
        refine mx_iast dC_settle_82 rfl (vp_in_nI (by omega) (by decide)) ?_
        rw [nI_clamp (by omega)]
        refine mx_eqs rfl rfl rfl (pic_25 _) ?_
        rw [upI_self, upI_upI]
        first | rw [if_pos h42] at ih | rw [if_neg (fun e => e h42)] at ih
        refine mx_iinc dC_settle_83 rfl (mx_inc _) (Nat.le_of_ble_eq_true rfl) rfl ?_
        refine mx_goto 2 dC_settle_86 rfl ?_
        refine mx_drop 4 ?_
        refine mx_drop 5 ?_
        refine mx_drop 6 ?_
        refine mx_drop 7 ?_
        exact ih
      · refine mx_aload_n dC_settle_45 rfl ?_
        refine mx_aload_n dC_settle_46 rfl ?_
        refine mx_iload dC_settle_47 rfl ?_
        refine mx_iconst (1) dC_settle_49 (by decide) ?_
        refine mx_iadd dC_settle_50 ?_
        rw [nI_1]
        refine mx_V1 (R' := (mR 1 22)) [_, _] _ dC_settle_51 rfl mT_G jC_valueOf_ok jC_valueOf_v lkC_41 ⟨rfl, rfl, Nat.le_of_ble_eq_true rfl, Nat.le_of_ble_eq_true rfl⟩ rfl rfl (Nat.le_of_ble_eq_true rfl) (Nat.le_of_ble_eq_true rfl) rfl rfl rfl (fun Qc qc => cC_valueOf (I := upI I 25 V) (by omega) (hv _ (by omega)) qc) ?_
        rw [show cV (upI I 25 V 12) (upI I 25 V 65) (L 66) (upI I 25 V 25) (2 * g - 2 + 1) = cV (I 12) (I 65) (L 66) V (2 * g - 2 + 1) from rfl]
        refine mx_goto 58 dC_settle_54 rfl ?_
        refine mx_istore dC_settle_58 (Nat.le_of_ble_eq_true rfl) rfl ?_
        refine mx_aload_n dC_settle_60 rfl ?_
        refine mx_get 7 1 dC_settle_61 fgC_18 rfl rfl ?_
        refine mx_iconst (3) dC_settle_64 (by decide) ?_
        refine mx_iload dC_settle_65 rfl ?_
        refine mx_iadd dC_settle_67 ?_
        rw [show (3 : Int32) = nI 3 from rfl, nI_add]
        refine mx_aload_n dC_settle_68 rfl ?_
        refine mx_get 1 1 dC_settle_69 fgC_48 rfl rfl ?_
        refine mx_iload dC_settle_72 rfl ?_
        refine mx_iald dC_settle_74 rfl hg ?_
        rw [nI_clamp (by omega), show upI I 25 V 10 g = I 10 g from rfl]
        refine mx_iload dC_settle_75 rfl ?_
        refine mx_iload dC_settle_77 rfl ?_
        refine mx_S1 (R' := (mR 1 22)) [_, _, _] _ dC_settle_79 rfl mT_G jG_made_ok jG_made_v lkC_51 ⟨rfl, rfl, Nat.le_of_ble_eq_true rfl, Nat.le_of_ble_eq_true rfl⟩ rfl rfl (Nat.le_of_ble_eq_true rfl) (Nat.le_of_ble_eq_true rfl) (fun Qc qc => cG_made qc) ?_
        refine mx_iast dC_settle_82 rfl (vp_in_nI (by omega) (by decide)) ?_
        rw [nI_clamp (by omega)]
        refine mx_eqs rfl rfl rfl (pic_25 _) ?_
        rw [upI_self, upI_upI]
        first | rw [if_pos h42] at ih | rw [if_neg (fun e => e h42)] at ih
        refine mx_iinc dC_settle_83 rfl (mx_inc _) (Nat.le_of_ble_eq_true rfl) rfl ?_
        refine mx_goto 2 dC_settle_86 rfl ?_
        refine mx_drop 4 ?_
        refine mx_drop 5 ?_
        refine mx_drop 6 ?_
        refine mx_drop 7 ?_
        exact ih
  refine mx_iconst (0) dC_settle_0 (by decide) ?_
  refine mx_istore_n dC_settle_1 (Nat.le_of_ble_eq_true rfl) rfl ?_
  refine mx_eqs rfl rfl rfl ?_ (hloop 0 (Nat.zero_le _))
  rw [lp_zero, upI_own]
def cOut (sr ln : Nat → Int32) (vl : Nat → Int64) (V : Nat → Int32) : Int32 := lp (fun i a => 4 * a + (if ¬ sr (26 - i) = 0 then cV sr ln vl V (26 - i) else 3)) 3 0
theorem cC_outputs {c : Nat} {fil : Int32} {I : Nat → Nat → Int32} {L : Nat → Nat → Int64} {Q : mx_O → List va_E → Prop} (hv : ∀ w, w < 27 → vp_in (3 + I 12 w) 16) (hQ : Q (.inl (some (.int (cOut (I 12) (I 65) (L 66) (I 25))))) (pic (nI c) fil I L)) : mx_W mx_K mT mCl jC_outputs (mR 2 44) 0 [.ref 8, .ref 1, .retAddr 0, .retAddr 0, .retAddr 0] [] (pic (nI c) fil I L) Q := by
  have hloop : ∀ i, i ≤ 3 → mx_W mx_K mT mCl jC_outputs (mR 2 44) 5 [.ref 8, .ref 1, .int (lp (fun i a => 4 * a + (if ¬ I 12 (26 - i) = 0 then cV (I 12) (I 65) (L 66) (I 25) (26 - i) else 3)) i 0), .int (nI (26 - i)), .retAddr 0] [] (pic (nI c) fil I L) Q := by
    refine lp_down ?_ ?_
    · refine mx_iload_n dC_outputs_5 rfl ?_
      refine mx_bipush (24) dC_outputs_6 (by decide) ?_
      refine mx_icmp_lt 45 dC_outputs_8 rfl (fun h8 => ?_) (fun h8 => ?_)
      rotate_left
      · exact absurd (show nI (26 - 3) < (24 : Int32) by decide) h8
      refine mx_iload_n dC_outputs_45 rfl ?_
      refine mx_iret dC_outputs_46 rfl rfl ?_
      exact hQ
    · intro i hi ih
      have ih : mx_W mx_K mT mCl jC_outputs (mR 2 44) 5 [.ref 8, .ref 1, .int (4 * lp (fun i a => 4 * a + (if ¬ I 12 (26 - i) = 0 then cV (I 12) (I 65) (L 66) (I 25) (26 - i) else 3)) i 0 + (if ¬ I 12 (26 - i) = 0 then cV (I 12) (I 65) (L 66) (I 25) (26 - i) else 3)), .int (nI (26 - (i + 1))), .retAddr 0] [] (pic (nI c) fil I L) Q := ih
      generalize lp (fun i a => 4 * a + (if ¬ I 12 (26 - i) = 0 then cV (I 12) (I 65) (L 66) (I 25) (26 - i) else 3)) i 0 = a at ih ⊢
      have hdec : nI (26 - i) + Int32.ofInt (-1) = nI (26 - (i + 1)) := by
        rw [show 26 - i = (26 - (i + 1)) + 1 by omega]
        exact mx_dec _
      refine mx_iload_n dC_outputs_5 rfl ?_
      refine mx_bipush (24) dC_outputs_6 (by decide) ?_
      refine mx_icmp_lt 45 dC_outputs_8 rfl (fun h8 => ?_) (fun h8 => ?_)
      · exact absurd h8 (nI_nlt (b := 24) (by omega) (by omega))
      refine mx_aload_n dC_outputs_11 rfl ?_
      refine mx_get 1 3 dC_outputs_12 fgC_57 rfl rfl ?_
      refine mx_iload_n dC_outputs_15 rfl ?_
      refine mx_iald dC_outputs_16 rfl (vp_in_nI (by omega) (by decide)) ?_
      rw [nI_clamp (by omega)]
      refine mx_if_ne 24 dC_outputs_17 rfl (fun h17 => ?_) (fun h17 => ?_)
      · refine mx_aload_n dC_outputs_24 rfl ?_
        refine mx_aload_n dC_outputs_25 rfl ?_
        refine mx_iload_n dC_outputs_26 rfl ?_
        refine mx_V1 (R' := (mR 1 22)) [_, _] _ dC_outputs_27 rfl mT_G jC_valueOf_ok jC_valueOf_v lkC_41 ⟨rfl, rfl, Nat.le_of_ble_eq_true rfl, Nat.le_of_ble_eq_true rfl⟩ rfl rfl (Nat.le_of_ble_eq_true rfl) (Nat.le_of_ble_eq_true rfl) rfl rfl rfl (fun Qc qc => cC_valueOf (by omega) (hv _ (by omega)) qc) ?_
        refine mx_istore dC_outputs_30 (Nat.le_of_ble_eq_true rfl) rfl ?_
        refine mx_iconst (4) dC_outputs_32 (by decide) ?_
        refine mx_iload_n dC_outputs_33 rfl ?_
        refine mx_imul dC_outputs_34 ?_
        refine mx_iload dC_outputs_35 rfl ?_
        refine mx_iadd dC_outputs_37 ?_
        refine mx_istore_n dC_outputs_38 (Nat.le_of_ble_eq_true rfl) rfl ?_
        first | rw [if_pos h17] at ih | rw [if_neg (fun e => e h17)] at ih
        refine mx_iinc dC_outputs_39 rfl hdec (Nat.le_of_ble_eq_true rfl) rfl ?_
        refine mx_goto 5 dC_outputs_42 rfl ?_
        refine mx_drop 4 ?_
        exact ih
      · refine mx_iconst (3) dC_outputs_20 (by decide) ?_
        refine mx_goto 30 dC_outputs_21 rfl ?_
        refine mx_istore dC_outputs_30 (Nat.le_of_ble_eq_true rfl) rfl ?_
        refine mx_iconst (4) dC_outputs_32 (by decide) ?_
        refine mx_iload_n dC_outputs_33 rfl ?_
        refine mx_imul dC_outputs_34 ?_
        refine mx_iload dC_outputs_35 rfl ?_
        refine mx_iadd dC_outputs_37 ?_
        refine mx_istore_n dC_outputs_38 (Nat.le_of_ble_eq_true rfl) rfl ?_
        first | rw [if_pos h17] at ih | rw [if_neg (fun e => e h17)] at ih
        refine mx_iinc dC_outputs_39 rfl hdec (Nat.le_of_ble_eq_true rfl) rfl ?_
        refine mx_goto 5 dC_outputs_42 rfl ?_
        refine mx_drop 4 ?_
        exact ih
  refine mx_iconst (0) dC_outputs_0 (by decide) ?_
  refine mx_istore_n dC_outputs_1 (Nat.le_of_ble_eq_true rfl) rfl ?_
  refine mx_bipush (26) dC_outputs_2 (by decide) ?_
  refine mx_istore_n dC_outputs_4 (Nat.le_of_ble_eq_true rfl) rfl ?_
  exact hloop 0 (Nat.zero_le _)
def kPic (c : Nat) (fil : Int32) (I : Nat → Nat → Int32) (L : Nat → Nat → Int64) (b : bS) : List va_E := pic (nI c) fil (upI I 65 b.1) (upL L 66 b.2)
theorem kPic_B {c : Nat} {fil : Int32} {I : Nat → Nat → Int32} {L : Nat → Nat → Int64} {b : bS} : pB (kPic c fil I L b) 24 65 66 b.1 b.2 := ⟨rfl, rfl, rfl⟩
theorem kPic_set {c : Nat} {fil : Int32} {I : Nat → Nat → Int32} {L : Nat → Nat → Int64} {b : bS} (f : Nat → Int32) (g : Nat → Int64) : ((kPic c fil I L b).set 66 (eV g)).set 65 (eL f) = kPic c fil I L (f, g) := by
  unfold kPic
  rw [pic_66, show eL f = eI 27 f from rfl, pic_65, upI_upI, upL_upL]
def cSh (sr V : Nat → Int32) (b : bS) : bS := lp (fun w b => if b.1 w ≤ 0 then b else bPu (bTk b w) w (V (3 + sr w).toNatClampNeg)) 27 b
theorem cC_shift {c : Nat} {fil : Int32} {I : Nat → Nat → Int32} {L : Nat → Nat → Int64} {Q : mx_O → List va_E → Prop} (hv : ∀ w, w < 27 → vp_in (3 + I 12 w) 16) (hQ : Q (.inl none) (kPic c fil I L (cSh (I 12) (I 25) (I 65, L 66)))) : mx_W mx_K mT mCl jC_shift (mR 2 47) 0 [.ref 8, .ref 1, .retAddr 0] [] (pic (nI c) fil I L) Q := by
  have hloop : ∀ i, i ≤ 27 → mx_W mx_K mT mCl jC_shift (mR 2 47) 2 [.ref 8, .ref 1, .int (nI i)] [] (kPic c fil I L (lp (fun w (b : bS) => if b.1 w ≤ 0 then b else bPu (bTk b w) w (I 25 (3 + I 12 w).toNatClampNeg)) i (I 65, L 66))) Q := by
    refine lp_down ?_ ?_
    · refine mx_iload_n dC_shift_2 rfl ?_
      refine mx_bipush (27) dC_shift_3 (by decide) ?_
      refine mx_icmp_ge 55 dC_shift_5 rfl (fun h5 => ?_) (fun h5 => ?_)
      rotate_left
      · exact absurd (show (27 : Int32) ≤ nI 27 by decide) h5
      refine mx_vret dC_shift_55 rfl ?_
      unfold cSh at hQ
      exact hQ
    · intro i hi ih
      have ih : mx_W mx_K mT mCl jC_shift (mR 2 47) 2 [.ref 8, .ref 1, .int (nI (i + 1))] [] (kPic c fil I L ((fun w (b : bS) => if b.1 w ≤ 0 then b else bPu (bTk b w) w (I 25 (3 + I 12 w).toNatClampNeg)) i (lp (fun w (b : bS) => if b.1 w ≤ 0 then b else bPu (bTk b w) w (I 25 (3 + I 12 w).toNatClampNeg)) i (I 65, L 66)))) Q := ih
      generalize lp (fun w (b : bS) => if b.1 w ≤ 0 then b else bPu (bTk b w) w (I 25 (3 + I 12 w).toNatClampNeg)) i (I 65, L 66) = t at ih ⊢
      dsimp only at ih
      refine mx_iload_n dC_shift_2 rfl ?_
      refine mx_bipush (27) dC_shift_3 (by decide) ?_
      refine mx_icmp_ge 55 dC_shift_5 rfl (fun h5 => ?_) (fun h5 => ?_)
      · exact absurd h5 (nI_ge (b := 27) hi (by decide))
      refine mx_aload_n dC_shift_8 rfl ?_
      refine mx_get 7 0 dC_shift_9 fgC_12 rfl rfl ?_
      refine mx_iload_n dC_shift_12 rfl ?_
      refine mx_V1 (R' := (mR 0 0)) [_] _ dC_shift_13 rfl mT_G jB_length_ok jB_length_v lkC_60 ⟨rfl, rfl, Nat.le_of_ble_eq_true rfl, Nat.le_of_ble_eq_true rfl⟩ rfl rfl (Nat.le_of_ble_eq_true rfl) (Nat.le_of_ble_eq_true rfl) rfl rfl rfl (fun Qc qc => cB_length kPic_B (vp_in_nI (by omega) (by decide)) qc) ?_
      rw [nI_clamp (by omega)]
      refine mx_if_le 49 dC_shift_16 rfl (fun h16 => ?_) (fun h16 => ?_)
      · first | rw [if_pos h16] at ih | rw [if_neg h16] at ih
        refine mx_iinc dC_shift_49 rfl (mx_inc _) (Nat.le_of_ble_eq_true rfl) rfl ?_
        refine mx_goto 2 dC_shift_52 rfl ?_
        exact ih
      · refine mx_aload_n dC_shift_19 rfl ?_
        refine mx_get 7 0 dC_shift_20 fgC_12 rfl rfl ?_
        refine mx_iload_n dC_shift_23 rfl ?_
        refine mx_V1 (R' := (mR 1 22)) [_] _ dC_shift_24 rfl mT_G jB_takeAtSink_ok jB_takeAtSink_v lkC_63 ⟨rfl, rfl, Nat.le_of_ble_eq_true rfl, Nat.le_of_ble_eq_true rfl⟩ rfl rfl (Nat.le_of_ble_eq_true rfl) (Nat.le_of_ble_eq_true rfl) rfl rfl rfl (fun Qc qc => cB_takeAtSink kPic_B (vp_in_nI (by omega) (by decide)) qc) ?_
        rw [nI_clamp (by omega), kPic_set]
        refine mx_pop dC_shift_27 rfl ?_
        refine mx_aload_n dC_shift_28 rfl ?_
        refine mx_get 7 0 dC_shift_29 fgC_12 rfl rfl ?_
        refine mx_iload_n dC_shift_32 rfl ?_
        refine mx_aload_n dC_shift_33 rfl ?_
        refine mx_get 7 1 dC_shift_34 fgC_18 rfl rfl ?_
        refine mx_iconst (3) dC_shift_37 (by decide) ?_
        refine mx_aload_n dC_shift_38 rfl ?_
        refine mx_get 1 3 dC_shift_39 fgC_57 rfl rfl ?_
        refine mx_iload_n dC_shift_42 rfl ?_
        refine mx_iald dC_shift_43 rfl (vp_in_nI (by omega) (by decide)) ?_
        rw [nI_clamp (by omega)]
        show mx_W mx_K mT mCl jC_shift (mR 2 47) _ _ (.int (I 12 i) :: _) _ _
        refine mx_iadd dC_shift_44 ?_
        refine mx_iald dC_shift_45 rfl (hv i hi) ?_
        refine mx_V1 (R' := (mR 1 25)) [_, _] _ dC_shift_46 rfl mT_G jB_putAtSource_ok jB_putAtSource_v lkC_66 ⟨rfl, rfl, Nat.le_of_ble_eq_true rfl, Nat.le_of_ble_eq_true rfl⟩ rfl rfl (Nat.le_of_ble_eq_true rfl) (Nat.le_of_ble_eq_true rfl) rfl rfl rfl (fun Qc qc => cB_putAtSource kPic_B (vp_in_nI (by omega) (by decide)) qc) ?_
        rw [nI_clamp (by omega), kPic_set]
        first | rw [if_pos h16] at ih | rw [if_neg h16] at ih
        refine mx_iinc dC_shift_49 rfl (mx_inc _) (Nat.le_of_ble_eq_true rfl) rfl ?_
        refine mx_goto 2 dC_shift_52 rfl ?_
        exact ih
  refine mx_iconst (0) dC_shift_0 (by decide) ?_
  refine mx_istore_n dC_shift_1 (Nat.le_of_ble_eq_true rfl) rfl ?_
  refine mx_eqs rfl rfl rfl ?_ (hloop 0 (Nat.zero_le _))
  rw [lp_zero]
  unfold kPic
  rw [upI_own, upL_own]
end
section
/-! The words of throw new X() in MovedRegisters. -/
def twOk (ic : Nat) (X : Nat) : Bool := (Bundle.ownAtoms0 "MovedRegisters" ic (mx_xn X) mx_up).all (fun a => (decide (a ∈ lw_tbl) && mx_gw a) || (decide (a = .isRef (.static "java/lang/Throwable" "UNASSIGNED_STACK" "[Ljava/lang/StackTraceElement;")) || (decide (a = .isRef (.static "java/lang/Throwable" "SUPPRESSED_SENTINEL" "Ljava/util/List;")) || (decide (a = .laysStatic "java/lang/Throwable" "UNASSIGNED_STACK" "[Ljava/lang/StackTraceElement;") || decide (a = .laysStatic "java/lang/Throwable" "SUPPRESSED_SENTINEL" "Ljava/util/List;")))))
theorem tw_of {ic X : Nat} (h : twOk ic X = true) : ∀ a ∈ Bundle.ownAtoms0 "MovedRegisters" ic (mx_xn X) mx_up, a ∈ mT ∨ a = .isRef (.static "java/lang/Throwable" "UNASSIGNED_STACK" "[Ljava/lang/StackTraceElement;") ∨ a = .isRef (.static "java/lang/Throwable" "SUPPRESSED_SENTINEL" "Ljava/util/List;") ∨ a = .laysStatic "java/lang/Throwable" "UNASSIGNED_STACK" "[Ljava/lang/StackTraceElement;" ∨ a = .laysStatic "java/lang/Throwable" "SUPPRESSED_SENTINEL" "Ljava/util/List;" := by
  intro a ha
  have h1 := List.all_eq_true.mp h a ha
  simp only [Bool.or_eq_true, Bool.and_eq_true, decide_eq_true_eq] at h1
  rcases h1 with ⟨h2, h3⟩ | h2
  · exact Or.inl (mT_of h2 h3)
  · exact Or.inr h2
set_option maxRecDepth 100000 in
theorem tw_67 : twOk 67 0 = true := by decide +kernel
set_option maxRecDepth 100000 in
theorem tw_74 : twOk 74 1 = true := by decide +kernel
set_option maxRecDepth 100000 in
theorem tw_89 : twOk 89 2 = true := by decide +kernel
set_option maxRecDepth 100000 in
theorem tw_180 : twOk 180 3 = true := by decide +kernel
end
section
/-! MovedRegisters: its own methods. -/
section MXF
variable {T : List Cond} {cl : List vw_C} {J : mx_J} {R : Room} {k : Nat} {ls : List Value} {hp : List va_E} {Q : mx_O → List va_E → Prop}
theorem mx_VT1 {J' : mx_J} {R' : Room} {idx n b ci : Nat} {fs : List Value} {r : vw_C} {st : List Value} {X : Nat} {hp' : List va_E} (as rest : List Value) (hd : decode J.2.1 k = .ok (.invokevirtual idx, 3)) (hst : st = as.reverse ++ .ref b :: rest) (hG : mx_G T) (hok : mx_ok T J' n) (hV : Cond.instanceMethod J'.1 ∈ T ∧ Cond.selects J'.1.cls J'.1 J'.1 ∈ T) (hlk : Cond.methodLink J.1.cls idx J'.1 ∈ T) (hRm : mx_rmT R' R J'.2.2.1) (hn : as.length = n) (hc1 : mx_cat1 (.ref b :: as) = true) (hle : (.ref b :: as).length ≤ J'.2.2.1) (hrest : (rest.map fun v => v.category).sum ≤ 8) (hb : hp[b]? = some (.inr (ci, fs))) (hci : cl[ci]? = some r) (hr : r.1 = J'.1.cls)
    (hW : ∀ Qc : mx_O → List va_E → Prop, Qc (.inr X) hp' → mx_W mx_K T cl J' R' 0 (mx_pad (.ref b :: as) J'.2.2.1) [] hp Qc) (hQ : Q (.inr X) hp') : mx_W mx_K T cl J R k ls st hp Q :=
  mx_VT as rest hd hst hG hok hV hlk hRm hn hc1 hle hrest hb hci hr (hW (fun r h => r = .inr X ∧ h = hp') ⟨rfl, rfl⟩) (fun v h' q => by cases q.1) (fun X' h' q => by
    obtain ⟨e1, e2⟩ := q
    cases e1
    subst e2
    exact hQ)
end MXF
def aVal (x : Int32) : Int32 := if x < 0 then 0 else if 2 < x then 0 else 1
theorem hasG {c : Nat} {x : Int32} (hc : c ≤ 12) (h : ¬ qP_hasGate (nI c) x = 0) : ∃ u, 1 ≤ u ∧ u ≤ c ∧ x = nI u := by
  unfold qP_hasGate at h
  by_cases h1 : x < 1
  · rw [if_pos h1] at h; exact absurd rfl h
  · rw [if_neg h1] at h
    by_cases h2 : nI c < x
    · rw [if_pos h2] at h; exact absurd rfl h
    · have a1 : ¬ x.toInt < 1 := fun e => h1 (Int32.lt_iff_toInt_lt.mpr (by simpa using e))
      have a2 : ¬ (c : Int) < x.toInt := fun e => h2 (Int32.lt_iff_toInt_lt.mpr (by rw [nI_toInt (by omega)]; exact e))
      refine ⟨x.toInt.toNat, by omega, by omega, ?_⟩
      apply Int32.toInt_inj.mp
      rw [nI_toInt (by omega)]
      omega
theorem cA_isValue {hp : List va_E} {Q : mx_O → List va_E → Prop} {x : Int32} (hQ : Q (.inl (some (.int (aVal x)))) (hp)) : mx_W mx_K mT mCl jA_isValue (mR 0 0) 0 [.int x] [] hp Q := by
  refine mx_iload_n dA_isValue_0 rfl ?_
  refine mx_if_lt 13 dA_isValue_1 rfl (fun h1 => ?_) (fun h1 => ?_)
  · refine mx_iconst (0) dA_isValue_13 (by decide) ?_
    refine mx_iret dA_isValue_14 rfl rfl ?_
    simpa [aVal, h1] using hQ
  · refine mx_iload_n dA_isValue_4 rfl ?_
    refine mx_iconst (2) dA_isValue_5 (by decide) ?_
    refine mx_icmp_gt 13 dA_isValue_6 rfl (fun h6 => ?_) (fun h6 => ?_)
    · refine mx_iconst (0) dA_isValue_13 (by decide) ?_
      refine mx_iret dA_isValue_14 rfl rfl ?_
      simpa [aVal, h1, h6] using hQ
    · refine mx_iconst (1) dA_isValue_9 (by decide) ?_
      refine mx_goto 14 dA_isValue_10 rfl ?_
      refine mx_iret dA_isValue_14 rfl rfl ?_
      simpa [aVal, h1, h6] using hQ
theorem cA_gates {c : Nat} {fil : Int32} {I : Nat → Nat → Int32} {L : Nat → Nat → Int64} {Q : mx_O → List va_E → Prop} (hQ : Q (.inl (some (.int (nI c)))) (pic (nI c) fil I L)) : mx_W mx_K mT mCl jA_gates (mR 0 0) 0 [.ref 0] [] (pic (nI c) fil I L) Q := by
  refine mx_aload_n dA_gates_0 rfl ?_
  refine mx_get 0 0 dA_gates_1 fgA_12 rfl rfl ?_
  refine mx_get 1 0 dA_gates_4 fgA_68 rfl rfl ?_
  refine mx_iret dA_gates_7 rfl rfl ?_
  exact hQ
theorem cA_sound {c : Nat} {fil : Int32} {I : Nat → Nat → Int32} {L : Nat → Nat → Int64} {Q : mx_O → List va_E → Prop} (hc : c ≤ 12) (hsr : ∀ w, w < 27 → I 12 w ≤ 12) (hQ : Q (.inl (some (.int (i01 (sndB c I))))) (sndH c fil I L)) : mx_W mx_K mT mCl jA_sound (mR 6 136) 0 [.ref 0] [] (pic (nI c) fil I L) Q := by
  refine mx_aload_n dA_sound_0 rfl ?_
  refine mx_V1 (R' := (mR 5 116)) [] _ dA_sound_1 rfl mT_G jA_isSound_ok jA_isSound_v lkA_121 ⟨rfl, rfl, Nat.le_of_ble_eq_true rfl, Nat.le_of_ble_eq_true rfl⟩ rfl rfl (Nat.le_of_ble_eq_true rfl) (Nat.le_of_ble_eq_true rfl) rfl rfl rfl (fun Qc qc => cA_isSound hc hsr qc) ?_
  refine mx_iret dA_sound_4 rfl (by cases sndB c I <;> rfl) ?_
  exact hQ
/-- the run begins anew: the clock's bank is the circuit's -/
def begI (I : Nat → Nat → Int32) : Nat → Nat → Int32 := upI I 65 (I 13)
def begL (L : Nat → Nat → Int64) : Nat → Nat → Int64 := upL L 66 (L 14)
theorem pic_beg {c : Int32} {fil : Int32} {I : Nat → Nat → Int32} {L : Nat → Nat → Int64} : ((pic c fil I L).set 65 (eL (I 13))).set 66 (eV (L 14)) = pic c fil (begI I) (begL L) := by
  rw [show eL (I 13) = eI 27 (I 13) from rfl, pic_65, pic_66]
  rfl
theorem cA_restart {c : Nat} {fil : Int32} {I : Nat → Nat → Int32} {L : Nat → Nat → Int64} {Q : mx_O → List va_E → Prop} (hQ : Q (.inl none) (pic (nI c) fil (begI I) (begL L))) : mx_W mx_K mT mCl jA_restart (mR 3 102) 0 [.ref 0] [] (pic (nI c) fil I L) Q := by
  refine mx_aload_n dA_restart_0 rfl ?_
  refine mx_get 0 7 dA_restart_1 fgA_57 rfl rfl ?_
  refine mx_aload_n dA_restart_4 rfl ?_
  refine mx_get 0 1 dA_restart_5 fgA_19 rfl rfl ?_
  refine mx_V1 (R' := (mR 2 81)) [_] _ dA_restart_8 rfl mT_G jC_begin_ok jC_begin_v lkA_79 ⟨rfl, rfl, Nat.le_of_ble_eq_true rfl, Nat.le_of_ble_eq_true rfl⟩ rfl rfl (Nat.le_of_ble_eq_true rfl) (Nat.le_of_ble_eq_true rfl) rfl rfl rfl (fun Qc qc => cC_begin (bs := 24) (kv0 := 25) (kl := 65) (kv := 66) (kl2 := 13) (kv2 := 14) rfl pic_S pic_B (by decide) (by decide) qc) ?_
  refine mx_vret dA_restart_11 rfl ?_
  rw [pic_beg]
  exact hQ
theorem cA_needGate {c : Nat} {fil : Int32} {I : Nat → Nat → Int32} {L : Nat → Nat → Int64} {Q : mx_O → List va_E → Prop} {x : Int32} (hx : ¬ qP_hasGate (nI c) x = 0) (hQ : Q (.inl none) (pic (nI c) fil I L)) : mx_W mx_K mT mCl jA_needGate (mR 6 92) 0 [.ref 0, .int x] [] (pic (nI c) fil I L) Q := by
  refine mx_aload_n dA_needGate_0 rfl ?_
  refine mx_get 0 0 dA_needGate_1 fgA_12 rfl rfl ?_
  refine mx_iload_n dA_needGate_4 rfl ?_
  refine mx_V1 (R' := (mR 0 0)) [_] _ dA_needGate_5 rfl mT_G jP_hasGate_ok jP_hasGate_v lkA_175 ⟨rfl, rfl, Nat.le_of_ble_eq_true rfl, Nat.le_of_ble_eq_true rfl⟩ rfl rfl (Nat.le_of_ble_eq_true rfl) (Nat.le_of_ble_eq_true rfl) rfl rfl rfl (fun Qc qc => cP_hasGate pic_P qc) ?_
  refine mx_if_ne 19 dA_needGate_8 rfl (fun h8 => ?_) (fun h8 => ?_)
  rotate_left
  · exact absurd h8 hx
  refine mx_vret dA_needGate_19 rfl ?_
  exact hQ
theorem cA_needGateT {c : Nat} {fil : Int32} {I : Nat → Nat → Int32} {L : Nat → Nat → Int64} {Q : mx_O → List va_E → Prop} {x : Int32} (hx : qP_hasGate (nI c) x = 0) (hQ : Q (.inr 2) (pic (nI c) fil I L)) : mx_W mx_K mT mCl jA_needGate (mRT 6 92) 0 [.ref 0, .int x] [] (pic (nI c) fil I L) Q := by
  refine mx_aload_n dA_needGate_0 rfl ?_
  refine mx_get 0 0 dA_needGate_1 fgA_12 rfl rfl ?_
  refine mx_iload_n dA_needGate_4 rfl ?_
  refine mx_V1 (R' := (mR 0 0)) [_] _ dA_needGate_5 rfl mT_G jP_hasGate_ok jP_hasGate_v lkA_175 ⟨rfl, rfl, Nat.le_of_ble_eq_true rfl, Nat.le_of_ble_eq_true rfl⟩ rfl rfl (Nat.le_of_ble_eq_true rfl) (Nat.le_of_ble_eq_true rfl) rfl rfl rfl (fun Qc qc => cP_hasGate pic_P qc) ?_
  refine mx_if_ne 19 dA_needGate_8 rfl (fun h8 => ?_) (fun h8 => ?_)
  · exact absurd hx h8
  refine mx_throw 2 dA_needGate_11 dA_needGate_14 dA_needGate_15 dA_needGate_18 mT_G (mT_2 (i := 127) rfl rfl) (mT_2 (i := 128) rfl rfl) (mT_1 (i := 16) rfl rfl) (by decide +kernel) (tw_of tw_89) (Nat.le_of_ble_eq_true rfl) (Nat.le_of_ble_eq_true rfl) (Nat.le_refl _) (Nat.le_refl _) ?_
  exact hQ
/-- behind a sound check: the order's cells -/
def oI (c : Nat) (I : Nat → Nat → Int32) : Nat → Nat → Int32 := upI (upI I 17 (oFin c I).2.1) 18 (oFin c I).1
theorem sndH_t {c : Nat} {fil : Int32} {I : Nat → Nat → Int32} {L : Nat → Nat → Int64} (h : sndB c I = true) : sndH c fil I L = pic (nI c) (nI c) (oI c I) L := by
  unfold sndB at h
  obtain ⟨h1, h2⟩ := Bool.and_eq_true_iff.mp h
  unfold sndH
  rw [if_pos h1]
  show pic (nI c) (nI (oFin c I).2.2) (oI c I) L = _
  rw [of_decide_eq_true h2]
theorem cA_needSound {c : Nat} {fil : Int32} {I : Nat → Nat → Int32} {L : Nat → Nat → Int64} {Q : mx_O → List va_E → Prop} (hc : c ≤ 12) (hsr : ∀ w, w < 27 → I 12 w ≤ 12) (hs : sndB c I = true) (hQ : Q (.inl none) (pic (nI c) (nI c) (oI c I) L)) : mx_W mx_K mT mCl jA_needSound (mR 6 136) 0 [.ref 0] [] (pic (nI c) fil I L) Q := by
  refine mx_aload_n dA_needSound_0 rfl ?_
  refine mx_V1 (R' := (mR 5 116)) [] _ dA_needSound_1 rfl mT_G jA_isSound_ok jA_isSound_v lkA_121 ⟨rfl, rfl, Nat.le_of_ble_eq_true rfl, Nat.le_of_ble_eq_true rfl⟩ rfl rfl (Nat.le_of_ble_eq_true rfl) (Nat.le_of_ble_eq_true rfl) rfl rfl rfl (fun Qc qc => cA_isSound hc hsr qc) ?_
  rw [hs, sndH_t hs]
  refine mx_if_ne 15 dA_needSound_4 rfl (fun h4 => ?_) (fun h4 => ?_)
  rotate_left
  · exact absurd h4 (by decide)
  refine mx_vret dA_needSound_15 rfl ?_
  exact hQ
theorem cA_needSoundT {c : Nat} {fil : Int32} {I : Nat → Nat → Int32} {L : Nat → Nat → Int64} {Q : mx_O → List va_E → Prop} (hc : c ≤ 12) (hsr : ∀ w, w < 27 → I 12 w ≤ 12) (hs : sndB c I = false) (hQ : Q (.inr 3) (sndH c fil I L)) : mx_W mx_K mT mCl jA_needSound (mRT 6 136) 0 [.ref 0] [] (pic (nI c) fil I L) Q := by
  refine mx_aload_n dA_needSound_0 rfl ?_
  refine mx_V1 (R' := (mR 5 116)) [] _ dA_needSound_1 rfl mT_G jA_isSound_ok jA_isSound_v lkA_121 ⟨rfl, rfl, Nat.le_of_ble_eq_true rfl, Nat.le_of_ble_eq_true rfl⟩ rfl rfl (Nat.le_of_ble_eq_true rfl) (Nat.le_of_ble_eq_true rfl) rfl rfl rfl (fun Qc qc => cA_isSound hc hsr qc) ?_
  rw [hs]
  refine mx_if_ne 15 dA_needSound_4 rfl (fun h4 => ?_) (fun h4 => ?_)
  · exact absurd rfl h4
  refine mx_throw 3 dA_needSound_7 dA_needSound_10 dA_needSound_11 dA_needSound_14 mT_G (mT_2 (i := 210) rfl rfl) (mT_2 (i := 211) rfl rfl) (mT_1 (i := 18) rfl rfl) (by decide +kernel) (tw_of tw_180) (Nat.le_of_ble_eq_true rfl) (Nat.le_of_ble_eq_true rfl) (Nat.le_refl _) (Nat.le_refl _) ?_
  exact hQ
/-- the wire of a pin, if there is one -/
def aWt (c : Nat) (I : Nat → Nat → Int32) (x y : Int32) : Option Nat := if qP_placeOf (nI c) (I 10) x y = -1 then none else if I 12 (qP_placeOf (nI c) (I 10) x y).toNatClampNeg = 0 then none else some (qP_placeOf (nI c) (I 10) x y).toNatClampNeg
theorem place_in {c : Nat} {kd : Nat → Int32} {x y : Int32} (hc : c ≤ 12) (h : ¬ qP_placeOf (nI c) kd x y = -1) : ∃ w, w < 27 ∧ qP_placeOf (nI c) kd x y = nI w := by
  unfold qP_placeOf at h ⊢
  by_cases h0 : 0 ≤ y
  · rw [if_pos h0] at h ⊢
    by_cases h1 : qP_hasGate (nI c) x = 0
    · rw [if_pos h1] at h ⊢
      by_cases h2 : qP_isPort x = 0
      · rw [if_pos h2] at h; exact absurd rfl h
      · rw [if_neg h2] at h ⊢
        by_cases h3 : ¬ y = 0
        · rw [if_pos h3] at h; exact absurd rfl h
        · rw [if_neg h3] at h ⊢
          unfold qP_isPort at h2
          by_cases h4 : x < -3
          · rw [if_pos h4] at h2; exact absurd rfl h2
          · rw [if_neg h4] at h2
            by_cases h5 : -1 < x
            · rw [if_pos h5] at h2; exact absurd rfl h2
            · have a1 : ¬ x.toInt < -3 := fun e => h4 (Int32.lt_iff_toInt_lt.mpr (by simpa using e))
              have a2 : ¬ -1 < x.toInt := fun e => h5 (Int32.lt_iff_toInt_lt.mpr (by simpa using e))
              refine ⟨(23 - x.toInt).toNat, by omega, ?_⟩
              apply Int32.toInt_inj.mp
              rw [nI_toInt (by omega), Int32.toInt_sub]
              rw [show (23 : Int32).toInt = 23 from by decide]
              rw [Int.bmod_eq_of_le (by omega) (by omega)]
              omega
    · rw [if_neg h1] at h ⊢
      obtain ⟨u, u1, u2, rfl⟩ := hasG hc h1
      have hp2 := pn_le kd u
      by_cases h2 : qP_pinsOf kd (nI u) ≤ y
      · rw [if_pos h2] at h; exact absurd rfl h
      · rw [if_neg h2]
        obtain ⟨v, hv, rfl⟩ := nI_of (x := y) (fun e => by
          have e1 := Int32.lt_iff_toInt_lt.mp e
          have e2 := Int32.le_iff_toInt_le.mp h0
          omega)
        rw [pn_nat (by omega), nI_leI (by omega) hv] at h2
        rw [fp_nat u1, nI_add]
        exact ⟨2 * u - 2 + v, by omega, rfl⟩
  · rw [if_neg h0] at h; exact absurd rfl h
theorem aWt_some {c : Nat} {I : Nat → Nat → Int32} {x y : Int32} {w : Nat} (hc : c ≤ 12) (h : aWt c I x y = some w) : w < 27 ∧ qP_placeOf (nI c) (I 10) x y = nI w ∧ ¬ I 12 w = 0 := by
  unfold aWt at h
  by_cases h1 : qP_placeOf (nI c) (I 10) x y = -1
  · rw [if_pos h1] at h; cases h
  · rw [if_neg h1] at h
    obtain ⟨v, hv, e⟩ := place_in hc h1
    rw [e, nI_clamp (by omega)] at h
    by_cases h2 : I 12 v = 0
    · rw [if_pos h2] at h; cases h
    · rw [if_neg h2] at h
      cases h
      exact ⟨hv, e, h2⟩
theorem cA_wireTo {c : Nat} {fil : Int32} {I : Nat → Nat → Int32} {L : Nat → Nat → Int64} {Q : mx_O → List va_E → Prop} (hc : c ≤ 12) {x y : Int32} {w : Nat} (hw : aWt c I x y = some w) (hQ : Q (.inl (some (.int (nI w)))) (pic (nI c) fil I L)) : mx_W mx_K mT mCl jA_wireTo (mR 6 92) 0 [.ref 0, .int x, .int y, .retAddr 0] [] (pic (nI c) fil I L) Q := by
  obtain ⟨w1, w2, w3⟩ := aWt_some hc hw
  refine mx_aload_n dA_wireTo_0 rfl ?_
  refine mx_get 0 0 dA_wireTo_1 fgA_12 rfl rfl ?_
  refine mx_iload_n dA_wireTo_4 rfl ?_
  refine mx_iload_n dA_wireTo_5 rfl ?_
  refine mx_V1 (R' := (mR 1 21)) [_, _] _ dA_wireTo_6 rfl mT_G jP_placeOf_ok jP_placeOf_v lkA_90 ⟨rfl, rfl, Nat.le_of_ble_eq_true rfl, Nat.le_of_ble_eq_true rfl⟩ rfl rfl (Nat.le_of_ble_eq_true rfl) (Nat.le_of_ble_eq_true rfl) rfl rfl rfl (fun Qc qc => cP_placeOf pic_P (fun hg => by obtain ⟨u, _, _, rfl⟩ := hasG hc hg; exact vp_in_nI (by omega) (by decide)) qc) ?_
  rw [w2]
  refine mx_istore_n dA_wireTo_9 (Nat.le_of_ble_eq_true rfl) rfl ?_
  refine mx_iload_n dA_wireTo_10 rfl ?_
  refine mx_iconst (-1) dA_wireTo_11 (by decide) ?_
  refine mx_icmp_eq 27 dA_wireTo_12 rfl (fun h12 => ?_) (fun h12 => ?_)
  · exact absurd h12 (fun e => absurd (congrArg Int32.toInt e) (by rw [nI_toInt (by omega), show (-1 : Int32).toInt = -1 from by decide]; omega))
  refine mx_aload_n dA_wireTo_15 rfl ?_
  refine mx_get 0 0 dA_wireTo_16 fgA_12 rfl rfl ?_
  refine mx_get 1 3 dA_wireTo_19 fgA_94 rfl rfl ?_
  refine mx_iload_n dA_wireTo_22 rfl ?_
  refine mx_iald dA_wireTo_23 rfl (vp_in_nI (by omega) (by decide)) ?_
  rw [nI_clamp (by omega)]
  refine mx_if_ne 35 dA_wireTo_24 rfl (fun h24 => ?_) (fun h24 => ?_)
  rotate_left
  · exact absurd h24 w3
  refine mx_iload_n dA_wireTo_35 rfl ?_
  refine mx_iret dA_wireTo_36 rfl rfl ?_
  exact hQ
theorem cA_wireToT {c : Nat} {fil : Int32} {I : Nat → Nat → Int32} {L : Nat → Nat → Int64} {Q : mx_O → List va_E → Prop} (hc : c ≤ 12) {x y : Int32} (hw : aWt c I x y = none) (hQ : Q (.inr 2) (pic (nI c) fil I L)) : mx_W mx_K mT mCl jA_wireTo (mRT 6 92) 0 [.ref 0, .int x, .int y, .retAddr 0] [] (pic (nI c) fil I L) Q := by
  unfold aWt at hw
  refine mx_aload_n dA_wireTo_0 rfl ?_
  refine mx_get 0 0 dA_wireTo_1 fgA_12 rfl rfl ?_
  refine mx_iload_n dA_wireTo_4 rfl ?_
  refine mx_iload_n dA_wireTo_5 rfl ?_
  refine mx_V1 (R' := (mR 1 21)) [_, _] _ dA_wireTo_6 rfl mT_G jP_placeOf_ok jP_placeOf_v lkA_90 ⟨rfl, rfl, Nat.le_of_ble_eq_true rfl, Nat.le_of_ble_eq_true rfl⟩ rfl rfl (Nat.le_of_ble_eq_true rfl) (Nat.le_of_ble_eq_true rfl) rfl rfl rfl (fun Qc qc => cP_placeOf pic_P (fun hg => by obtain ⟨u, _, _, rfl⟩ := hasG hc hg; exact vp_in_nI (by omega) (by decide)) qc) ?_
  refine mx_istore_n dA_wireTo_9 (Nat.le_of_ble_eq_true rfl) rfl ?_
  refine mx_iload_n dA_wireTo_10 rfl ?_
  refine mx_iconst (-1) dA_wireTo_11 (by decide) ?_
  refine mx_icmp_eq 27 dA_wireTo_12 rfl (fun h12 => ?_) (fun h12 => ?_)
  · refine mx_throw 2 dA_wireTo_27 dA_wireTo_30 dA_wireTo_31 dA_wireTo_34 mT_G (mT_2 (i := 127) rfl rfl) (mT_2 (i := 128) rfl rfl) (mT_1 (i := 16) rfl rfl) (by decide +kernel) (tw_of tw_89) (Nat.le_of_ble_eq_true rfl) (Nat.le_of_ble_eq_true rfl) (Nat.le_refl _) (Nat.le_refl _) ?_
    exact hQ
  · rw [if_neg h12] at hw
    obtain ⟨w, hw1, ew⟩ := place_in hc h12
    rw [ew, nI_clamp (by omega)] at hw
    rw [ew]
    refine mx_aload_n dA_wireTo_15 rfl ?_
    refine mx_get 0 0 dA_wireTo_16 fgA_12 rfl rfl ?_
    refine mx_get 1 3 dA_wireTo_19 fgA_94 rfl rfl ?_
    refine mx_iload_n dA_wireTo_22 rfl ?_
    refine mx_iald dA_wireTo_23 rfl (vp_in_nI (by omega) (by decide)) ?_
    rw [nI_clamp (by omega)]
    refine mx_if_ne 35 dA_wireTo_24 rfl (fun h24 => ?_) (fun h24 => ?_)
    · refine mx_iload_n dA_wireTo_35 rfl ?_
      refine mx_iret dA_wireTo_36 rfl rfl ?_
      rw [if_neg h24] at hw
      cases hw
    · refine mx_throw 2 dA_wireTo_27 dA_wireTo_30 dA_wireTo_31 dA_wireTo_34 mT_G (mT_2 (i := 127) rfl rfl) (mT_2 (i := 128) rfl rfl) (mT_1 (i := 16) rfl rfl) (by decide +kernel) (tw_of tw_89) (Nat.le_of_ble_eq_true rfl) (Nat.le_of_ble_eq_true rfl) (Nat.le_refl _) (Nat.le_refl _) ?_
      exact hQ
def aRw (c : Nat) (I : Nat → Nat → Int32) (x y r : Int32) : Option Nat := match aWt c I x y with
  | none => none
  | some w => if r < 0 then none else if ¬ r < I 13 w then none else some w
theorem cA_registerWire {c : Nat} {fil : Int32} {I : Nat → Nat → Int32} {L : Nat → Nat → Int64} {Q : mx_O → List va_E → Prop} (hc : c ≤ 12) {x y r : Int32} {w : Nat} (hw : aRw c I x y r = some w) (hQ : Q (.inl (some (.int (nI w)))) (pic (nI c) fil I L)) : mx_W mx_K mT mCl jA_registerWire (mR 7 115) 0 [.ref 0, .int x, .int y, .int r, .retAddr 0] [] (pic (nI c) fil I L) Q := by
  unfold aRw at hw
  cases e : aWt c I x y with
  | none => rw [e] at hw; cases hw
  | some v =>
    rw [e] at hw
    dsimp only at hw
    obtain ⟨w1, w2, w3⟩ := aWt_some hc e
    by_cases q1 : r < 0
    · rw [if_pos q1] at hw; cases hw
    by_cases q2 : r < I 13 v
    · rw [if_neg q1, if_neg (fun z => z q2)] at hw
      cases hw
      refine mx_aload_n dA_registerWire_0 rfl ?_
      refine mx_iload_n dA_registerWire_1 rfl ?_
      refine mx_iload_n dA_registerWire_2 rfl ?_
      refine mx_V1 (R' := (mR 6 92)) [_, _] _ dA_registerWire_3 rfl mT_G jA_wireTo_ok jA_wireTo_v lkA_114 ⟨rfl, rfl, Nat.le_of_ble_eq_true rfl, Nat.le_of_ble_eq_true rfl⟩ rfl rfl (Nat.le_of_ble_eq_true rfl) (Nat.le_of_ble_eq_true rfl) rfl rfl rfl (fun Qc qc => cA_wireTo hc e qc) ?_
      refine mx_istore dA_registerWire_6 (Nat.le_of_ble_eq_true rfl) rfl ?_
      refine mx_iload_n dA_registerWire_8 rfl ?_
      refine mx_if_lt 25 dA_registerWire_9 rfl (fun h9 => ?_) (fun h9 => ?_)
      · exact absurd h9 q1
      refine mx_iload_n dA_registerWire_12 rfl ?_
      refine mx_aload_n dA_registerWire_13 rfl ?_
      refine mx_get 0 1 dA_registerWire_14 fgA_19 rfl rfl ?_
      refine mx_iload dA_registerWire_17 rfl ?_
      refine mx_V1 (R' := (mR 0 0)) [_] _ dA_registerWire_19 rfl mT_G jB_length_ok jB_length_v lkA_117 ⟨rfl, rfl, Nat.le_of_ble_eq_true rfl, Nat.le_of_ble_eq_true rfl⟩ rfl rfl (Nat.le_of_ble_eq_true rfl) (Nat.le_of_ble_eq_true rfl) rfl rfl rfl (fun Qc qc => cB_length pic_B (vp_in_nI (by omega) (by decide)) qc) ?_
      rw [nI_clamp (by omega)]
      refine mx_icmp_lt 33 dA_registerWire_22 rfl (fun h22 => ?_) (fun h22 => ?_)
      rotate_left
      · exact absurd q2 h22
      refine mx_iload dA_registerWire_33 rfl ?_
      refine mx_iret dA_registerWire_35 rfl rfl ?_
      exact hQ
    · rw [if_neg q1, if_pos q2] at hw; cases hw
theorem cA_registerWireT {c : Nat} {fil : Int32} {I : Nat → Nat → Int32} {L : Nat → Nat → Int64} {Q : mx_O → List va_E → Prop} (hc : c ≤ 12) {x y r : Int32} (hw : aRw c I x y r = none) (hQ : Q (.inr 2) (pic (nI c) fil I L)) : mx_W mx_K mT mCl jA_registerWire (mRT 7 115) 0 [.ref 0, .int x, .int y, .int r, .retAddr 0] [] (pic (nI c) fil I L) Q := by
  unfold aRw at hw
  cases e : aWt c I x y with
  | none =>
    refine mx_aload_n dA_registerWire_0 rfl ?_
    refine mx_iload_n dA_registerWire_1 rfl ?_
    refine mx_iload_n dA_registerWire_2 rfl ?_
    refine mx_VT1 (R' := (mRT 6 92)) [_, _] _ dA_registerWire_3 rfl mT_G jA_wireTo_ok jA_wireTo_v (mT_2 (i := 171) rfl rfl) ⟨Nat.le_of_ble_eq_true rfl, Nat.le_of_ble_eq_true rfl, Nat.le_of_ble_eq_true rfl, Nat.le_of_ble_eq_true rfl⟩ rfl rfl (Nat.le_of_ble_eq_true rfl) (Nat.le_of_ble_eq_true rfl) rfl rfl rfl (fun Qc qc => cA_wireToT hc e qc) ?_
    exact hQ
  | some v =>
    rw [e] at hw
    dsimp only at hw
    obtain ⟨w1, w2, w3⟩ := aWt_some hc e
    refine mx_aload_n dA_registerWire_0 rfl ?_
    refine mx_iload_n dA_registerWire_1 rfl ?_
    refine mx_iload_n dA_registerWire_2 rfl ?_
    refine mx_V1 (R' := (mR 6 92)) [_, _] _ dA_registerWire_3 rfl mT_G jA_wireTo_ok jA_wireTo_v lkA_114 ⟨rfl, rfl, Nat.le_of_ble_eq_true rfl, Nat.le_of_ble_eq_true rfl⟩ rfl rfl (Nat.le_of_ble_eq_true rfl) (Nat.le_of_ble_eq_true rfl) rfl rfl rfl (fun Qc qc => cA_wireTo hc e qc) ?_
    refine mx_istore dA_registerWire_6 (Nat.le_of_ble_eq_true rfl) rfl ?_
    refine mx_iload_n dA_registerWire_8 rfl ?_
    refine mx_if_lt 25 dA_registerWire_9 rfl (fun h9 => ?_) (fun h9 => ?_)
    · refine mx_throw 2 dA_registerWire_25 dA_registerWire_28 dA_registerWire_29 dA_registerWire_32 mT_G (mT_2 (i := 127) rfl rfl) (mT_2 (i := 128) rfl rfl) (mT_1 (i := 16) rfl rfl) (by decide +kernel) (tw_of tw_89) (Nat.le_of_ble_eq_true rfl) (Nat.le_of_ble_eq_true rfl) (Nat.le_refl _) (Nat.le_refl _) ?_
      exact hQ
    · refine mx_iload_n dA_registerWire_12 rfl ?_
      refine mx_aload_n dA_registerWire_13 rfl ?_
      refine mx_get 0 1 dA_registerWire_14 fgA_19 rfl rfl ?_
      refine mx_iload dA_registerWire_17 rfl ?_
      refine mx_V1 (R' := (mR 0 0)) [_] _ dA_registerWire_19 rfl mT_G jB_length_ok jB_length_v lkA_117 ⟨rfl, rfl, Nat.le_of_ble_eq_true rfl, Nat.le_of_ble_eq_true rfl⟩ rfl rfl (Nat.le_of_ble_eq_true rfl) (Nat.le_of_ble_eq_true rfl) rfl rfl rfl (fun Qc qc => cB_length pic_B (vp_in_nI (by omega) (by decide)) qc) ?_
      rw [nI_clamp (by omega)]
      refine mx_icmp_lt 33 dA_registerWire_22 rfl (fun h22 => ?_) (fun h22 => ?_)
      · refine mx_iload dA_registerWire_33 rfl ?_
        refine mx_iret dA_registerWire_35 rfl rfl ?_
        rw [if_neg h9, if_neg (fun z => z h22)] at hw
        cases hw
      · refine mx_throw 2 dA_registerWire_25 dA_registerWire_28 dA_registerWire_29 dA_registerWire_32 mT_G (mT_2 (i := 127) rfl rfl) (mT_2 (i := 128) rfl rfl) (mT_1 (i := 16) rfl rfl) (by decide +kernel) (tw_of tw_89) (Nat.le_of_ble_eq_true rfl) (Nat.le_of_ble_eq_true rfl) (Nat.le_refl _) (Nat.le_refl _) ?_
        exact hQ
end
section
/-! MovedRegisters: its public methods: what each answers or throws, and the picture behind it. -/
abbrev aR : Type := mx_O × List va_E
def aGate (c : Nat) (fil : Int32) (I : Nat → Nat → Int32) (L : Nat → Nat → Int64) (x y : Int32) : aR := if x < 0 then (.inr 0, pic (nI c) fil I L) else if 4 < x then (.inr 0, pic (nI c) fil I L) else if y < 0 then (.inr 0, pic (nI c) fil I L) else if ¬ y ≤ 50 then (.inr 0, pic (nI c) fil I L) else if ¬ nI c < 12 then (.inr 1, pic (nI c) fil I L)
  else (.inl (some (.int (nI (c + 1)))), pic (nI (c + 1)) fil (begI (upI (upI I 10 (upd (I 10) (c + 1) x)) 11 (upd (I 11) (c + 1) y))) (begL L))
theorem cA_gate {c : Nat} {fil : Int32} {I : Nat → Nat → Int32} {L : Nat → Nat → Int64} {Q : mx_O → List va_E → Prop} (hc : c ≤ 12) {x y : Int32} (hQ : Q (aGate c fil I L x y).1 (aGate c fil I L x y).2) : mx_W mx_K mT mCl jA_gate (mRT 6 102) 0 [.ref 0, .int x, .int y] [] (pic (nI c) fil I L) Q := by
  refine mx_iload_n dA_gate_0 rfl ?_
  refine mx_if_lt 19 dA_gate_1 rfl (fun h1 => ?_) (fun h1 => ?_)
  · refine mx_throw 0 dA_gate_19 dA_gate_22 dA_gate_23 dA_gate_26 mT_G (mT_2 (i := 25) rfl rfl) (mT_2 (i := 26) rfl rfl) (mT_1 (i := 13) rfl rfl) (by decide +kernel) (tw_of tw_67) (Nat.le_of_ble_eq_true rfl) (Nat.le_of_ble_eq_true rfl) (Nat.le_refl _) (Nat.le_refl _) ?_
    have e : aGate c fil I L x y = (.inr 0, pic (nI c) fil I L) := by
      unfold aGate
      (repeat' split) <;> first | rfl | contradiction
    rw [e] at hQ
    exact hQ
  · refine mx_iload_n dA_gate_4 rfl ?_
    refine mx_iconst (4) dA_gate_5 (by decide) ?_
    refine mx_icmp_gt 19 dA_gate_6 rfl (fun h6 => ?_) (fun h6 => ?_)
    · refine mx_throw 0 dA_gate_19 dA_gate_22 dA_gate_23 dA_gate_26 mT_G (mT_2 (i := 25) rfl rfl) (mT_2 (i := 26) rfl rfl) (mT_1 (i := 13) rfl rfl) (by decide +kernel) (tw_of tw_67) (Nat.le_of_ble_eq_true rfl) (Nat.le_of_ble_eq_true rfl) (Nat.le_refl _) (Nat.le_refl _) ?_
      have e : aGate c fil I L x y = (.inr 0, pic (nI c) fil I L) := by
        unfold aGate
        (repeat' split) <;> first | rfl | contradiction
      rw [e] at hQ
      exact hQ
    · refine mx_iload_n dA_gate_9 rfl ?_
      refine mx_if_lt 19 dA_gate_10 rfl (fun h10 => ?_) (fun h10 => ?_)
      · refine mx_throw 0 dA_gate_19 dA_gate_22 dA_gate_23 dA_gate_26 mT_G (mT_2 (i := 25) rfl rfl) (mT_2 (i := 26) rfl rfl) (mT_1 (i := 13) rfl rfl) (by decide +kernel) (tw_of tw_67) (Nat.le_of_ble_eq_true rfl) (Nat.le_of_ble_eq_true rfl) (Nat.le_refl _) (Nat.le_refl _) ?_
        have e : aGate c fil I L x y = (.inr 0, pic (nI c) fil I L) := by
          unfold aGate
          (repeat' split) <;> first | rfl | contradiction
        rw [e] at hQ
        exact hQ
      · refine mx_iload_n dA_gate_13 rfl ?_
        refine mx_bipush (50) dA_gate_14 (by decide) ?_
        refine mx_icmp_le 27 dA_gate_16 rfl (fun h16 => ?_) (fun h16 => ?_)
        · refine mx_aload_n dA_gate_27 rfl ?_
          refine mx_get 0 0 dA_gate_28 fgA_12 rfl rfl ?_
          refine mx_get 1 0 dA_gate_31 fgA_68 rfl rfl ?_
          refine mx_bipush (12) dA_gate_34 (by decide) ?_
          refine mx_icmp_lt 47 dA_gate_36 rfl (fun h36 => ?_) (fun h36 => ?_)
          · have hlt : c < 12 := (nI_ltI (b := 12) (by omega) (by decide)).mp h36
            refine mx_aload_n dA_gate_47 rfl ?_
            refine mx_get 0 0 dA_gate_48 fgA_12 rfl rfl ?_
            refine mx_iload_n dA_gate_51 rfl ?_
            refine mx_iload_n dA_gate_52 rfl ?_
            refine mx_V1 (R' := (mR 0 0)) [_, _] _ dA_gate_53 rfl mT_G jP_addGate_ok jP_addGate_v lkA_75 ⟨rfl, rfl, Nat.le_of_ble_eq_true rfl, Nat.le_of_ble_eq_true rfl⟩ rfl rfl (Nat.le_of_ble_eq_true rfl) (Nat.le_of_ble_eq_true rfl) rfl rfl rfl (fun Qc qc => cP_addGate hlt qc) ?_
            refine mx_aload_n dA_gate_56 rfl ?_
            refine mx_get 0 7 dA_gate_57 fgA_57 rfl rfl ?_
            refine mx_aload_n dA_gate_60 rfl ?_
            refine mx_get 0 1 dA_gate_61 fgA_19 rfl rfl ?_
            refine mx_V1 (R' := (mR 2 81)) [_] _ dA_gate_64 rfl mT_G jC_begin_ok jC_begin_v lkA_79 ⟨rfl, rfl, Nat.le_of_ble_eq_true rfl, Nat.le_of_ble_eq_true rfl⟩ rfl rfl (Nat.le_of_ble_eq_true rfl) (Nat.le_of_ble_eq_true rfl) rfl rfl rfl (fun Qc qc => cC_begin (bs := 24) (kv0 := 25) (kl := 65) (kv := 66) (kl2 := 13) (kv2 := 14) rfl pic_S pic_B (by decide) (by decide) qc) ?_
            rw [pic_beg]
            refine mx_aload_n dA_gate_67 rfl ?_
            refine mx_get 0 0 dA_gate_68 fgA_12 rfl rfl ?_
            refine mx_get 1 0 dA_gate_71 fgA_68 rfl rfl ?_
            refine mx_iret dA_gate_74 rfl rfl ?_
            have e : aGate c fil I L x y = (.inl (some (.int (nI (c + 1)))), pic (nI (c + 1)) fil (begI (upI (upI I 10 (upd (I 10) (c + 1) x)) 11 (upd (I 11) (c + 1) y))) (begL L)) := by
              unfold aGate
              (repeat' split) <;> first | rfl | contradiction
            rw [e] at hQ
            exact hQ
          · refine mx_throw 1 dA_gate_39 dA_gate_42 dA_gate_43 dA_gate_46 mT_G (mT_2 (i := 89) rfl rfl) (mT_2 (i := 90) rfl rfl) (mT_1 (i := 14) rfl rfl) (by decide +kernel) (tw_of tw_74) (Nat.le_of_ble_eq_true rfl) (Nat.le_of_ble_eq_true rfl) (Nat.le_refl _) (Nat.le_refl _) ?_
            have e : aGate c fil I L x y = (.inr 1, pic (nI c) fil I L) := by
              unfold aGate
              (repeat' split) <;> first | rfl | contradiction
            rw [e] at hQ
            exact hQ
        · refine mx_throw 0 dA_gate_19 dA_gate_22 dA_gate_23 dA_gate_26 mT_G (mT_2 (i := 25) rfl rfl) (mT_2 (i := 26) rfl rfl) (mT_1 (i := 13) rfl rfl) (by decide +kernel) (tw_of tw_67) (Nat.le_of_ble_eq_true rfl) (Nat.le_of_ble_eq_true rfl) (Nat.le_refl _) (Nat.le_refl _) ?_
          have e : aGate c fil I L x y = (.inr 0, pic (nI c) fil I L) := by
            unfold aGate
            (repeat' split) <;> first | rfl | contradiction
          rw [e] at hQ
          exact hQ
def aWire (c : Nat) (fil : Int32) (I : Nat → Nat → Int32) (L : Nat → Nat → Int64) (x s y r : Int32) : aR := if qP_hasEnd (nI c) x = 0 then (.inr 2, pic (nI c) fil I L) else if qP_hasEnd (nI c) s = 0 then (.inr 2, pic (nI c) fil I L) else if qP_placeOf (nI c) (I 10) s y = -1 then (.inr 0, pic (nI c) fil I L) else if r < 0 then (.inr 0, pic (nI c) fil I L) else if ¬ r ≤ 4 then (.inr 0, pic (nI c) fil I L)
  else (.inl none, pic (nI c) fil (begI (upI (upI I 12 (upd (I 12) (qP_placeOf (nI c) (I 10) s y).toNatClampNeg x)) 13 (upd (I 13) (qP_placeOf (nI c) (I 10) s y).toNatClampNeg r))) (begL (upL L 14 (vp_updL (L 14) (qP_placeOf (nI c) (I 10) s y).toNatClampNeg (bFill (L 14 (qP_placeOf (nI c) (I 10) s y).toNatClampNeg) r.toNatClampNeg)))))
theorem cA_wire {c : Nat} {fil : Int32} {I : Nat → Nat → Int32} {L : Nat → Nat → Int64} {Q : mx_O → List va_E → Prop} (hc : c ≤ 12) {x s y r : Int32} (hQ : Q (aWire c fil I L x s y r).1 (aWire c fil I L x s y r).2) : mx_W mx_K mT mCl jA_wire (mRT 6 102) 0 [.ref 0, .int x, .int s, .int y, .int r, .retAddr 0] [] (pic (nI c) fil I L) Q := by
  refine mx_aload_n dA_wire_0 rfl ?_
  refine mx_get 0 0 dA_wire_1 fgA_12 rfl rfl ?_
  refine mx_iload_n dA_wire_4 rfl ?_
  refine mx_V1 (R' := (mR 1 21)) [_] _ dA_wire_5 rfl mT_G jP_hasEnd_ok jP_hasEnd_v lkA_83 ⟨rfl, rfl, Nat.le_of_ble_eq_true rfl, Nat.le_of_ble_eq_true rfl⟩ rfl rfl (Nat.le_of_ble_eq_true rfl) (Nat.le_of_ble_eq_true rfl) rfl rfl rfl (fun Qc qc => cP_hasEnd pic_P qc) ?_
  refine mx_if_eq 22 dA_wire_8 rfl (fun h8 => ?_) (fun h8 => ?_)
  · refine mx_throw 2 dA_wire_22 dA_wire_25 dA_wire_26 dA_wire_29 mT_G (mT_2 (i := 127) rfl rfl) (mT_2 (i := 128) rfl rfl) (mT_1 (i := 16) rfl rfl) (by decide +kernel) (tw_of tw_89) (Nat.le_of_ble_eq_true rfl) (Nat.le_of_ble_eq_true rfl) (Nat.le_refl _) (Nat.le_refl _) ?_
    have e : aWire c fil I L x s y r = (.inr 2, pic (nI c) fil I L) := by
      unfold aWire
      (repeat' split) <;> first | rfl | contradiction
    rw [e] at hQ
    exact hQ
  · refine mx_aload_n dA_wire_11 rfl ?_
    refine mx_get 0 0 dA_wire_12 fgA_12 rfl rfl ?_
    refine mx_iload_n dA_wire_15 rfl ?_
    refine mx_V1 (R' := (mR 1 21)) [_] _ dA_wire_16 rfl mT_G jP_hasEnd_ok jP_hasEnd_v lkA_83 ⟨rfl, rfl, Nat.le_of_ble_eq_true rfl, Nat.le_of_ble_eq_true rfl⟩ rfl rfl (Nat.le_of_ble_eq_true rfl) (Nat.le_of_ble_eq_true rfl) rfl rfl rfl (fun Qc qc => cP_hasEnd pic_P qc) ?_
    refine mx_if_ne 30 dA_wire_19 rfl (fun h19 => ?_) (fun h19 => ?_)
    · refine mx_aload_n dA_wire_30 rfl ?_
      refine mx_get 0 0 dA_wire_31 fgA_12 rfl rfl ?_
      refine mx_iload_n dA_wire_34 rfl ?_
      refine mx_iload_n dA_wire_35 rfl ?_
      refine mx_V1 (R' := (mR 1 21)) [_, _] _ dA_wire_36 rfl mT_G jP_placeOf_ok jP_placeOf_v lkA_90 ⟨rfl, rfl, Nat.le_of_ble_eq_true rfl, Nat.le_of_ble_eq_true rfl⟩ rfl rfl (Nat.le_of_ble_eq_true rfl) (Nat.le_of_ble_eq_true rfl) rfl rfl rfl (fun Qc qc => cP_placeOf pic_P (fun hg => by obtain ⟨u, _, _, rfl⟩ := hasG hc hg; exact vp_in_nI (by omega) (by decide)) qc) ?_
      refine mx_istore dA_wire_39 (Nat.le_of_ble_eq_true rfl) rfl ?_
      refine mx_iload dA_wire_41 rfl ?_
      refine mx_iconst (-1) dA_wire_43 (by decide) ?_
      refine mx_icmp_eq 58 dA_wire_44 rfl (fun h44 => ?_) (fun h44 => ?_)
      · refine mx_throw 0 dA_wire_58 dA_wire_61 dA_wire_62 dA_wire_65 mT_G (mT_2 (i := 25) rfl rfl) (mT_2 (i := 26) rfl rfl) (mT_1 (i := 13) rfl rfl) (by decide +kernel) (tw_of tw_67) (Nat.le_of_ble_eq_true rfl) (Nat.le_of_ble_eq_true rfl) (Nat.le_refl _) (Nat.le_refl _) ?_
        have e : aWire c fil I L x s y r = (.inr 0, pic (nI c) fil I L) := by
          unfold aWire
          (repeat' split) <;> first | rfl | contradiction
        rw [e] at hQ
        exact hQ
      · refine mx_iload dA_wire_47 rfl ?_
        refine mx_if_lt 58 dA_wire_49 rfl (fun h49 => ?_) (fun h49 => ?_)
        · refine mx_throw 0 dA_wire_58 dA_wire_61 dA_wire_62 dA_wire_65 mT_G (mT_2 (i := 25) rfl rfl) (mT_2 (i := 26) rfl rfl) (mT_1 (i := 13) rfl rfl) (by decide +kernel) (tw_of tw_67) (Nat.le_of_ble_eq_true rfl) (Nat.le_of_ble_eq_true rfl) (Nat.le_refl _) (Nat.le_refl _) ?_
          have e : aWire c fil I L x s y r = (.inr 0, pic (nI c) fil I L) := by
            unfold aWire
            (repeat' split) <;> first | rfl | contradiction
          rw [e] at hQ
          exact hQ
        · refine mx_iload dA_wire_52 rfl ?_
          refine mx_iconst (4) dA_wire_54 (by decide) ?_
          refine mx_icmp_le 66 dA_wire_55 rfl (fun h55 => ?_) (fun h55 => ?_)
          · obtain ⟨w, hw, ew⟩ := place_in hc h44
            obtain ⟨ρ, hρ, rfl⟩ := nI_of h49
            have hρ4 : ρ ≤ 4 := (nI_leI (b := 4) hρ (by decide)).mp h55
            have hQ2 : Q (.inl none) (pic (nI c) fil (begI (upI (upI I 12 (upd (I 12) (qP_placeOf (nI c) (I 10) s y).toNatClampNeg x)) 13 (upd (I 13) (qP_placeOf (nI c) (I 10) s y).toNatClampNeg (nI ρ)))) (begL (upL L 14 (vp_updL (L 14) (qP_placeOf (nI c) (I 10) s y).toNatClampNeg (bFill (L 14 (qP_placeOf (nI c) (I 10) s y).toNatClampNeg) (nI ρ).toNatClampNeg))))) := by
              have e : aWire c fil I L x s y (nI ρ) = (.inl none, pic (nI c) fil (begI (upI (upI I 12 (upd (I 12) (qP_placeOf (nI c) (I 10) s y).toNatClampNeg x)) 13 (upd (I 13) (qP_placeOf (nI c) (I 10) s y).toNatClampNeg (nI ρ)))) (begL (upL L 14 (vp_updL (L 14) (qP_placeOf (nI c) (I 10) s y).toNatClampNeg (bFill (L 14 (qP_placeOf (nI c) (I 10) s y).toNatClampNeg) (nI ρ).toNatClampNeg))))) := by
                unfold aWire
                (repeat' split) <;> first | rfl | contradiction
              rw [e] at hQ
              exact hQ
            rw [ew, nI_clamp (by omega), nI_clamp (by omega)] at hQ2
            rw [ew]
            refine mx_aload_n dA_wire_66 rfl ?_
            refine mx_get 0 0 dA_wire_67 fgA_12 rfl rfl ?_
            refine mx_get 1 3 dA_wire_70 fgA_94 rfl rfl ?_
            refine mx_iload dA_wire_73 rfl ?_
            refine mx_iload_n dA_wire_75 rfl ?_
            refine mx_iast dA_wire_76 rfl (vp_in_nI (by omega) (by decide)) ?_
            rw [nI_clamp (by omega)]
            refine mx_eqs rfl rfl rfl (pic_12 _) ?_
            refine mx_aload_n dA_wire_77 rfl ?_
            refine mx_get 0 1 dA_wire_78 fgA_19 rfl rfl ?_
            refine mx_iload dA_wire_81 rfl ?_
            refine mx_iload dA_wire_83 rfl ?_
            refine mx_V1 (R' := (mR 2 47)) [_, _] _ dA_wire_85 rfl mT_G jB_fill_ok jB_fill_v lkA_97 ⟨rfl, rfl, Nat.le_of_ble_eq_true rfl, Nat.le_of_ble_eq_true rfl⟩ rfl rfl (Nat.le_of_ble_eq_true rfl) (Nat.le_of_ble_eq_true rfl) rfl rfl rfl (fun Qc qc => cB_fill pic_B (vp_in_nI (by omega) (by decide)) (by omega) qc) ?_
            rw [nI_clamp (by omega)]
            refine mx_eqs (hp' := pic (nI c) fil (upI (upI I 12 (upd (I 12) w x)) 13 (upd (I 13) w (nI ρ))) (upL L 14 (vp_updL (L 14) w (bFill (L 14 w) ρ)))) rfl rfl rfl rfl ?_
            refine mx_aload_n dA_wire_88 rfl ?_
            refine mx_get 0 7 dA_wire_89 fgA_57 rfl rfl ?_
            refine mx_aload_n dA_wire_92 rfl ?_
            refine mx_get 0 1 dA_wire_93 fgA_19 rfl rfl ?_
            refine mx_V1 (R' := (mR 2 81)) [_] _ dA_wire_96 rfl mT_G jC_begin_ok jC_begin_v lkA_79 ⟨rfl, rfl, Nat.le_of_ble_eq_true rfl, Nat.le_of_ble_eq_true rfl⟩ rfl rfl (Nat.le_of_ble_eq_true rfl) (Nat.le_of_ble_eq_true rfl) rfl rfl rfl (fun Qc qc => cC_begin (bs := 24) (kv0 := 25) (kl := 65) (kv := 66) (kl2 := 13) (kv2 := 14) rfl pic_S pic_B (by decide) (by decide) qc) ?_
            rw [pic_beg]
            refine mx_vret dA_wire_99 rfl ?_
            exact hQ2
          · refine mx_throw 0 dA_wire_58 dA_wire_61 dA_wire_62 dA_wire_65 mT_G (mT_2 (i := 25) rfl rfl) (mT_2 (i := 26) rfl rfl) (mT_1 (i := 13) rfl rfl) (by decide +kernel) (tw_of tw_67) (Nat.le_of_ble_eq_true rfl) (Nat.le_of_ble_eq_true rfl) (Nat.le_refl _) (Nat.le_refl _) ?_
            have e : aWire c fil I L x s y r = (.inr 0, pic (nI c) fil I L) := by
              unfold aWire
              (repeat' split) <;> first | rfl | contradiction
            rw [e] at hQ
            exact hQ
    · refine mx_throw 2 dA_wire_22 dA_wire_25 dA_wire_26 dA_wire_29 mT_G (mT_2 (i := 127) rfl rfl) (mT_2 (i := 128) rfl rfl) (mT_1 (i := 16) rfl rfl) (by decide +kernel) (tw_of tw_89) (Nat.le_of_ble_eq_true rfl) (Nat.le_of_ble_eq_true rfl) (Nat.le_refl _) (Nat.le_refl _) ?_
      have e : aWire c fil I L x s y r = (.inr 2, pic (nI c) fil I L) := by
        unfold aWire
        (repeat' split) <;> first | rfl | contradiction
      rw [e] at hQ
      exact hQ
def aHold (c : Nat) (fil : Int32) (I : Nat → Nat → Int32) (L : Nat → Nat → Int64) (x y r v : Int32) : aR := match aRw c I x y r with
  | none => (.inr 2, pic (nI c) fil I L)
  | some w => if ¬ aVal v = 0 then (.inl none, pic (nI c) fil (begI I) (begL (upL L 14 (vp_updL (L 14) w (bWr (L 14 w) r v))))) else (.inr 0, pic (nI c) fil I L)
theorem cA_hold {c : Nat} {fil : Int32} {I : Nat → Nat → Int32} {L : Nat → Nat → Int64} {Q : mx_O → List va_E → Prop} (hc : c ≤ 12) {x y r v : Int32} (hQ : Q (aHold c fil I L x y r v).1 (aHold c fil I L x y r v).2) : mx_W mx_K mT mCl jA_hold (mRT 8 139) 0 [.ref 0, .int x, .int y, .int r, .int v, .retAddr 0] [] (pic (nI c) fil I L) Q := by
  unfold aHold at hQ
  cases e : aRw c I x y r with
  | none =>
    rw [e] at hQ
    refine mx_aload_n dA_hold_0 rfl ?_
    refine mx_iload_n dA_hold_1 rfl ?_
    refine mx_iload_n dA_hold_2 rfl ?_
    refine mx_iload_n dA_hold_3 rfl ?_
    refine mx_VT1 (R' := (mRT 7 115)) [_, _, _] _ dA_hold_4 rfl mT_G jA_registerWire_ok jA_registerWire_v (mT_2 (i := 167) rfl rfl) ⟨Nat.le_of_ble_eq_true rfl, Nat.le_of_ble_eq_true rfl, Nat.le_of_ble_eq_true rfl, Nat.le_of_ble_eq_true rfl⟩ rfl rfl (Nat.le_of_ble_eq_true rfl) (Nat.le_of_ble_eq_true rfl) rfl rfl rfl (fun Qc qc => cA_registerWireT hc e qc) ?_
    exact hQ
  | some w =>
    rw [e] at hQ
    dsimp only at hQ
    have hw : w < 27 := by
      unfold aRw at e
      cases e2 : aWt c I x y with
      | none => rw [e2] at e; cases e
      | some u =>
        rw [e2] at e
        dsimp only at e
        have := (aWt_some hc e2).1
        split at e
        · cases e
        · split at e
          · cases e
          · cases e; exact this
    refine mx_aload_n dA_hold_0 rfl ?_
    refine mx_iload_n dA_hold_1 rfl ?_
    refine mx_iload_n dA_hold_2 rfl ?_
    refine mx_iload_n dA_hold_3 rfl ?_
    refine mx_V1 (R' := (mR 7 115)) [_, _, _] _ dA_hold_4 rfl mT_G jA_registerWire_ok jA_registerWire_v lkA_100 ⟨rfl, rfl, Nat.le_of_ble_eq_true rfl, Nat.le_of_ble_eq_true rfl⟩ rfl rfl (Nat.le_of_ble_eq_true rfl) (Nat.le_of_ble_eq_true rfl) rfl rfl rfl (fun Qc qc => cA_registerWire hc e qc) ?_
    refine mx_istore dA_hold_7 (Nat.le_of_ble_eq_true rfl) rfl ?_
    refine mx_iload dA_hold_9 rfl ?_
    refine mx_S1 (R' := (mR 0 0)) [_] _ dA_hold_11 rfl mT_G jA_isValue_ok jA_isValue_v lkA_104 ⟨rfl, rfl, Nat.le_of_ble_eq_true rfl, Nat.le_of_ble_eq_true rfl⟩ rfl rfl (Nat.le_of_ble_eq_true rfl) (Nat.le_of_ble_eq_true rfl) (fun Qc qc => cA_isValue qc) ?_
    refine mx_if_ne 25 dA_hold_14 rfl (fun h14 => ?_) (fun h14 => ?_)
    · refine mx_aload_n dA_hold_25 rfl ?_
      refine mx_get 0 1 dA_hold_26 fgA_19 rfl rfl ?_
      refine mx_iload dA_hold_29 rfl ?_
      refine mx_iload_n dA_hold_31 rfl ?_
      refine mx_iload dA_hold_32 rfl ?_
      refine mx_V1 (R' := (mR 0 0)) [_, _, _] _ dA_hold_34 rfl mT_G jB_write_ok jB_write_v lkA_107 ⟨rfl, rfl, Nat.le_of_ble_eq_true rfl, Nat.le_of_ble_eq_true rfl⟩ rfl rfl (Nat.le_of_ble_eq_true rfl) (Nat.le_of_ble_eq_true rfl) rfl rfl rfl (fun Qc qc => cB_write pic_B (vp_in_nI (by omega) (by decide)) qc) ?_
      rw [nI_clamp (by omega), pic_14]
      refine mx_aload_n dA_hold_37 rfl ?_
      refine mx_get 0 7 dA_hold_38 fgA_57 rfl rfl ?_
      refine mx_aload_n dA_hold_41 rfl ?_
      refine mx_get 0 1 dA_hold_42 fgA_19 rfl rfl ?_
      refine mx_V1 (R' := (mR 2 81)) [_] _ dA_hold_45 rfl mT_G jC_begin_ok jC_begin_v lkA_79 ⟨rfl, rfl, Nat.le_of_ble_eq_true rfl, Nat.le_of_ble_eq_true rfl⟩ rfl rfl (Nat.le_of_ble_eq_true rfl) (Nat.le_of_ble_eq_true rfl) rfl rfl rfl (fun Qc qc => cC_begin (bs := 24) (kv0 := 25) (kl := 65) (kv := 66) (kl2 := 13) (kv2 := 14) rfl pic_S pic_B (by decide) (by decide) qc) ?_
      rw [pic_beg]
      refine mx_vret dA_hold_48 rfl ?_
      rw [if_pos h14] at hQ
      exact hQ
    · refine mx_throw 0 dA_hold_17 dA_hold_20 dA_hold_21 dA_hold_24 mT_G (mT_2 (i := 25) rfl rfl) (mT_2 (i := 26) rfl rfl) (mT_1 (i := 13) rfl rfl) (by decide +kernel) (tw_of tw_67) (Nat.le_of_ble_eq_true rfl) (Nat.le_of_ble_eq_true rfl) (Nat.le_refl _) (Nat.le_refl _) ?_
      rw [if_neg (fun z => z h14)] at hQ
      exact hQ
theorem aRw_lt {c : Nat} {I : Nat → Nat → Int32} {x y r : Int32} {w : Nat} (hc : c ≤ 12) (e : aRw c I x y r = some w) : w < 27 := by
  unfold aRw at e
  cases e2 : aWt c I x y with
  | none => rw [e2] at e; cases e
  | some u =>
    rw [e2] at e
    dsimp only at e
    have := (aWt_some hc e2).1
    split at e
    · cases e
    · split at e
      · cases e
      · cases e; exact this
def aHeld (c : Nat) (fil : Int32) (I : Nat → Nat → Int32) (L : Nat → Nat → Int64) (x y r : Int32) : aR := match aRw c I x y r with
  | none => (.inr 2, pic (nI c) fil I L)
  | some w => (.inl (some (.int (bRd (L 14 w) r))), pic (nI c) fil I L)
def aRegs (c : Nat) (fil : Int32) (I : Nat → Nat → Int32) (L : Nat → Nat → Int64) (x y : Int32) : aR := match aWt c I x y with
  | none => (.inr 2, pic (nI c) fil I L)
  | some w => (.inl (some (.int (I 13 w))), pic (nI c) fil I L)
theorem cA_held {c : Nat} {fil : Int32} {I : Nat → Nat → Int32} {L : Nat → Nat → Int64} {Q : mx_O → List va_E → Prop} (hc : c ≤ 12) {x y r : Int32} (hQ : Q (aHeld c fil I L x y r).1 (aHeld c fil I L x y r).2) : mx_W mx_K mT mCl jA_held (mRT 8 139) 0 [.ref 0, .int x, .int y, .int r] [] (pic (nI c) fil I L) Q := by
  unfold aHeld at hQ
  cases e : aRw c I x y r with
  | none =>
    rw [e] at hQ
    refine mx_aload_n dA_held_0 rfl ?_
    refine mx_get 0 1 dA_held_1 fgA_19 rfl rfl ?_
    refine mx_aload_n dA_held_4 rfl ?_
    refine mx_iload_n dA_held_5 rfl ?_
    refine mx_iload_n dA_held_6 rfl ?_
    refine mx_iload_n dA_held_7 rfl ?_
    refine mx_VT1 (R' := (mRT 7 115)) [_, _, _] _ dA_held_8 rfl mT_G jA_registerWire_ok jA_registerWire_v (mT_2 (i := 167) rfl rfl) ⟨Nat.le_of_ble_eq_true rfl, Nat.le_of_ble_eq_true rfl, Nat.le_of_ble_eq_true rfl, Nat.le_of_ble_eq_true rfl⟩ rfl rfl (Nat.le_of_ble_eq_true rfl) (Nat.le_of_ble_eq_true rfl) rfl rfl rfl (fun Qc qc => cA_registerWireT hc e qc) ?_
    exact hQ
  | some w =>
    rw [e] at hQ
    have hw : w < 27 := aRw_lt hc e
    refine mx_aload_n dA_held_0 rfl ?_
    refine mx_get 0 1 dA_held_1 fgA_19 rfl rfl ?_
    refine mx_aload_n dA_held_4 rfl ?_
    refine mx_iload_n dA_held_5 rfl ?_
    refine mx_iload_n dA_held_6 rfl ?_
    refine mx_iload_n dA_held_7 rfl ?_
    refine mx_V1 (R' := (mR 7 115)) [_, _, _] _ dA_held_8 rfl mT_G jA_registerWire_ok jA_registerWire_v lkA_100 ⟨rfl, rfl, Nat.le_of_ble_eq_true rfl, Nat.le_of_ble_eq_true rfl⟩ rfl rfl (Nat.le_of_ble_eq_true rfl) (Nat.le_of_ble_eq_true rfl) rfl rfl rfl (fun Qc qc => cA_registerWire hc e qc) ?_
    refine mx_iload_n dA_held_11 rfl ?_
    refine mx_V1 (R' := (mR 0 0)) [_, _] _ dA_held_12 rfl mT_G jB_read_ok jB_read_v lkA_111 ⟨rfl, rfl, Nat.le_of_ble_eq_true rfl, Nat.le_of_ble_eq_true rfl⟩ rfl rfl (Nat.le_of_ble_eq_true rfl) (Nat.le_of_ble_eq_true rfl) rfl rfl rfl (fun Qc qc => cB_read pic_B (vp_in_nI (by omega) (by decide)) qc) ?_
    rw [nI_clamp (by omega)]
    refine mx_iret dA_held_15 rfl rfl ?_
    exact hQ
theorem cA_registers {c : Nat} {fil : Int32} {I : Nat → Nat → Int32} {L : Nat → Nat → Int64} {Q : mx_O → List va_E → Prop} (hc : c ≤ 12) {x y : Int32} (hQ : Q (aRegs c fil I L x y).1 (aRegs c fil I L x y).2) : mx_W mx_K mT mCl jA_registers (mRT 7 115) 0 [.ref 0, .int x, .int y] [] (pic (nI c) fil I L) Q := by
  unfold aRegs at hQ
  cases e : aWt c I x y with
  | none =>
    rw [e] at hQ
    refine mx_aload_n dA_registers_0 rfl ?_
    refine mx_get 0 1 dA_registers_1 fgA_19 rfl rfl ?_
    refine mx_aload_n dA_registers_4 rfl ?_
    refine mx_iload_n dA_registers_5 rfl ?_
    refine mx_iload_n dA_registers_6 rfl ?_
    refine mx_VT1 (R' := (mRT 6 92)) [_, _] _ dA_registers_7 rfl mT_G jA_wireTo_ok jA_wireTo_v (mT_2 (i := 171) rfl rfl) ⟨Nat.le_of_ble_eq_true rfl, Nat.le_of_ble_eq_true rfl, Nat.le_of_ble_eq_true rfl, Nat.le_of_ble_eq_true rfl⟩ rfl rfl (Nat.le_of_ble_eq_true rfl) (Nat.le_of_ble_eq_true rfl) rfl rfl rfl (fun Qc qc => cA_wireToT hc e qc) ?_
    exact hQ
  | some w =>
    rw [e] at hQ
    have hw : w < 27 := (aWt_some hc e).1
    refine mx_aload_n dA_registers_0 rfl ?_
    refine mx_get 0 1 dA_registers_1 fgA_19 rfl rfl ?_
    refine mx_aload_n dA_registers_4 rfl ?_
    refine mx_iload_n dA_registers_5 rfl ?_
    refine mx_iload_n dA_registers_6 rfl ?_
    refine mx_V1 (R' := (mR 6 92)) [_, _] _ dA_registers_7 rfl mT_G jA_wireTo_ok jA_wireTo_v lkA_114 ⟨rfl, rfl, Nat.le_of_ble_eq_true rfl, Nat.le_of_ble_eq_true rfl⟩ rfl rfl (Nat.le_of_ble_eq_true rfl) (Nat.le_of_ble_eq_true rfl) rfl rfl rfl (fun Qc qc => cA_wireTo hc e qc) ?_
    refine mx_V1 (R' := (mR 0 0)) [_] _ dA_registers_10 rfl mT_G jB_length_ok jB_length_v lkA_117 ⟨rfl, rfl, Nat.le_of_ble_eq_true rfl, Nat.le_of_ble_eq_true rfl⟩ rfl rfl (Nat.le_of_ble_eq_true rfl) (Nat.le_of_ble_eq_true rfl) rfl rfl rfl (fun Qc qc => cB_length pic_B (vp_in_nI (by omega) (by decide)) qc) ?_
    rw [nI_clamp (by omega)]
    refine mx_iret dA_registers_13 rfl rfl ?_
    exact hQ
def aLabel (c : Nat) (fil : Int32) (I : Nat → Nat → Int32) (L : Nat → Nat → Int64) (x : Int32) : aR := if qP_hasGate (nI c) x = 0 then (.inr 2, pic (nI c) fil I L) else (.inl (some (.int (I 9 x.toNatClampNeg))), pic (nI c) fil I L)
theorem cA_label {c : Nat} {fil : Int32} {I : Nat → Nat → Int32} {L : Nat → Nat → Int64} {Q : mx_O → List va_E → Prop} (hc : c ≤ 12) {x : Int32} (hQ : Q (aLabel c fil I L x).1 (aLabel c fil I L x).2) : mx_W mx_K mT mCl jA_label (mRT 7 113) 0 [.ref 0, .int x] [] (pic (nI c) fil I L) Q := by
  unfold aLabel at hQ
  by_cases e : qP_hasGate (nI c) x = 0
  · rw [if_pos e] at hQ
    refine mx_aload_n dA_label_0 rfl ?_
    refine mx_iload_n dA_label_1 rfl ?_
    refine mx_VT1 (R' := (mRT 6 92)) [_] _ dA_label_2 rfl mT_G jA_needGate_ok jA_needGate_v (mT_3 (i := 19) rfl rfl) ⟨Nat.le_of_ble_eq_true rfl, Nat.le_of_ble_eq_true rfl, Nat.le_of_ble_eq_true rfl, Nat.le_of_ble_eq_true rfl⟩ rfl rfl (Nat.le_of_ble_eq_true rfl) (Nat.le_of_ble_eq_true rfl) rfl rfl rfl (fun Qc qc => cA_needGateT e qc) ?_
    exact hQ
  · rw [if_neg e] at hQ
    obtain ⟨u, u1, u2, rfl⟩ := hasG hc e
    refine mx_aload_n dA_label_0 rfl ?_
    refine mx_iload_n dA_label_1 rfl ?_
    refine mx_V1 (R' := (mR 6 92)) [_] _ dA_label_2 rfl mT_G jA_needGate_ok jA_needGate_v lkA_135 ⟨rfl, rfl, Nat.le_of_ble_eq_true rfl, Nat.le_of_ble_eq_true rfl⟩ rfl rfl (Nat.le_of_ble_eq_true rfl) (Nat.le_of_ble_eq_true rfl) rfl rfl rfl (fun Qc qc => cA_needGate e qc) ?_
    refine mx_aload_n dA_label_5 rfl ?_
    refine mx_get 0 8 dA_label_6 fgA_61 rfl rfl ?_
    refine mx_iload_n dA_label_9 rfl ?_
    refine mx_iald dA_label_10 rfl (vp_in_nI (by omega) (by decide)) ?_
    refine mx_iret dA_label_11 rfl rfl ?_
    exact hQ
def aI2 (c : Nat) (I : Nat → Nat → Int32) : Nat → Nat → Int32 := hMeas c (oI c I)
def aPer (c : Nat) (fil : Int32) (I : Nat → Nat → Int32) (L : Nat → Nat → Int64) : aR := if sndB c I = true then (.inl (some (.int (hLu c (aI2 c I)))), pic (nI c) (nI c) (aI2 c I) L) else (.inr 3, sndH c fil I L)
def aMat (o : Nat) (c : Nat) (fil : Int32) (I : Nat → Nat → Int32) (L : Nat → Nat → Int64) (x y : Int32) : aR := if qP_hasGate (nI c) x = 0 then (.inr 2, pic (nI c) fil I L) else if qP_hasGate (nI c) y = 0 then (.inr 2, pic (nI c) fil I L) else if sndB c I = true then (.inl (some (.int (aI2 c I (o + x.toNatClampNeg) y.toNatClampNeg))), pic (nI c) (nI c) (aI2 c I) L) else (.inr 3, sndH c fil I L)
theorem cA_period {c : Nat} {fil : Int32} {I : Nat → Nat → Int32} {L : Nat → Nat → Int64} {Q : mx_O → List va_E → Prop} (hc : c ≤ 12) (hsr : ∀ w, w < 27 → I 12 w ≤ 12) (hQ : Q (aPer c fil I L).1 (aPer c fil I L).2) : mx_W mx_K mT mCl jA_period (mRT 7 156) 0 [.ref 0] [] (pic (nI c) fil I L) Q := by
  unfold aPer at hQ
  cases e : sndB c I with
  | false =>
    rw [e] at hQ
    refine mx_aload_n dA_period_0 rfl ?_
    refine mx_VT1 (R' := (mRT 6 136)) [] _ dA_period_1 rfl mT_G jA_needSound_ok jA_needSound_v (mT_2 (i := 206) rfl rfl) ⟨Nat.le_of_ble_eq_true rfl, Nat.le_of_ble_eq_true rfl, Nat.le_of_ble_eq_true rfl, Nat.le_of_ble_eq_true rfl⟩ rfl rfl (Nat.le_of_ble_eq_true rfl) (Nat.le_of_ble_eq_true rfl) rfl rfl rfl (fun Qc qc => cA_needSoundT hc hsr e qc) ?_
    exact hQ
  | true =>
    rw [e] at hQ
    refine mx_aload_n dA_period_0 rfl ?_
    refine mx_V1 (R' := (mR 6 136)) [] _ dA_period_1 rfl mT_G jA_needSound_ok jA_needSound_v lkA_125 ⟨rfl, rfl, Nat.le_of_ble_eq_true rfl, Nat.le_of_ble_eq_true rfl⟩ rfl rfl (Nat.le_of_ble_eq_true rfl) (Nat.le_of_ble_eq_true rfl) rfl rfl rfl (fun Qc qc => cA_needSound hc hsr e qc) ?_
    refine mx_aload_n dA_period_4 rfl ?_
    refine mx_get 0 4 dA_period_5 fgA_36 rfl rfl ?_
    refine mx_aload_n dA_period_8 rfl ?_
    refine mx_get 0 0 dA_period_9 fgA_12 rfl rfl ?_
    refine mx_aload_n dA_period_12 rfl ?_
    refine mx_get 0 1 dA_period_13 fgA_19 rfl rfl ?_
    refine mx_V1 (R' := (mR 3 70)) [_, _] _ dA_period_16 rfl mT_G jH_measure_ok jH_measure_v lkA_128 ⟨rfl, rfl, Nat.le_of_ble_eq_true rfl, Nat.le_of_ble_eq_true rfl⟩ rfl rfl (Nat.le_of_ble_eq_true rfl) (Nat.le_of_ble_eq_true rfl) rfl rfl rfl (fun Qc qc => cH_measure (I := oI c I) hc hsr qc) ?_
    refine mx_aload_n dA_period_19 rfl ?_
    refine mx_get 0 4 dA_period_20 fgA_36 rfl rfl ?_
    refine mx_aload_n dA_period_23 rfl ?_
    refine mx_get 0 0 dA_period_24 fgA_12 rfl rfl ?_
    refine mx_get 1 0 dA_period_27 fgA_68 rfl rfl ?_
    refine mx_V1 (R' := (mR 1 24)) [_] _ dA_period_30 rfl mT_G jH_longestUnregistered_ok jH_longestUnregistered_v lkA_132 ⟨rfl, rfl, Nat.le_of_ble_eq_true rfl, Nat.le_of_ble_eq_true rfl⟩ rfl rfl (Nat.le_of_ble_eq_true rfl) (Nat.le_of_ble_eq_true rfl) rfl rfl rfl (fun Qc qc => cH_longestUnregistered hc qc) ?_
    refine mx_iret dA_period_33 rfl rfl ?_
    exact hQ
theorem cA_weight {c : Nat} {fil : Int32} {I : Nat → Nat → Int32} {L : Nat → Nat → Int64} {Q : mx_O → List va_E → Prop} (hc : c ≤ 12) (hsr : ∀ w, w < 27 → I 12 w ≤ 12) {x y : Int32} (hQ : Q (aMat 26 c fil I L x y).1 (aMat 26 c fil I L x y).2) : mx_W mx_K mT mCl jA_weight (mRT 7 156) 0 [.ref 0, .int x, .int y] [] (pic (nI c) fil I L) Q := by
  unfold aMat at hQ
  by_cases e1 : qP_hasGate (nI c) x = 0
  · rw [if_pos e1] at hQ
    refine mx_aload_n dA_weight_0 rfl ?_
    refine mx_iload_n dA_weight_1 rfl ?_
    refine mx_VT1 (R' := (mRT 6 92)) [_] _ dA_weight_2 rfl mT_G jA_needGate_ok jA_needGate_v (mT_3 (i := 19) rfl rfl) ⟨Nat.le_of_ble_eq_true rfl, Nat.le_of_ble_eq_true rfl, Nat.le_of_ble_eq_true rfl, Nat.le_of_ble_eq_true rfl⟩ rfl rfl (Nat.le_of_ble_eq_true rfl) (Nat.le_of_ble_eq_true rfl) rfl rfl rfl (fun Qc qc => cA_needGateT e1 qc) ?_
    exact hQ
  by_cases e2 : qP_hasGate (nI c) y = 0
  · rw [if_neg e1, if_pos e2] at hQ
    refine mx_aload_n dA_weight_0 rfl ?_
    refine mx_iload_n dA_weight_1 rfl ?_
    refine mx_V1 (R' := (mR 6 92)) [_] _ dA_weight_2 rfl mT_G jA_needGate_ok jA_needGate_v lkA_135 ⟨rfl, rfl, Nat.le_of_ble_eq_true rfl, Nat.le_of_ble_eq_true rfl⟩ rfl rfl (Nat.le_of_ble_eq_true rfl) (Nat.le_of_ble_eq_true rfl) rfl rfl rfl (fun Qc qc => cA_needGate e1 qc) ?_
    refine mx_aload_n dA_weight_5 rfl ?_
    refine mx_iload_n dA_weight_6 rfl ?_
    refine mx_VT1 (R' := (mRT 6 92)) [_] _ dA_weight_7 rfl mT_G jA_needGate_ok jA_needGate_v (mT_3 (i := 19) rfl rfl) ⟨Nat.le_of_ble_eq_true rfl, Nat.le_of_ble_eq_true rfl, Nat.le_of_ble_eq_true rfl, Nat.le_of_ble_eq_true rfl⟩ rfl rfl (Nat.le_of_ble_eq_true rfl) (Nat.le_of_ble_eq_true rfl) rfl rfl rfl (fun Qc qc => cA_needGateT e2 qc) ?_
    exact hQ
  rw [if_neg e1, if_neg e2] at hQ
  cases e : sndB c I with
  | false =>
    rw [e] at hQ
    refine mx_aload_n dA_weight_0 rfl ?_
    refine mx_iload_n dA_weight_1 rfl ?_
    refine mx_V1 (R' := (mR 6 92)) [_] _ dA_weight_2 rfl mT_G jA_needGate_ok jA_needGate_v lkA_135 ⟨rfl, rfl, Nat.le_of_ble_eq_true rfl, Nat.le_of_ble_eq_true rfl⟩ rfl rfl (Nat.le_of_ble_eq_true rfl) (Nat.le_of_ble_eq_true rfl) rfl rfl rfl (fun Qc qc => cA_needGate e1 qc) ?_
    refine mx_aload_n dA_weight_5 rfl ?_
    refine mx_iload_n dA_weight_6 rfl ?_
    refine mx_V1 (R' := (mR 6 92)) [_] _ dA_weight_7 rfl mT_G jA_needGate_ok jA_needGate_v lkA_135 ⟨rfl, rfl, Nat.le_of_ble_eq_true rfl, Nat.le_of_ble_eq_true rfl⟩ rfl rfl (Nat.le_of_ble_eq_true rfl) (Nat.le_of_ble_eq_true rfl) rfl rfl rfl (fun Qc qc => cA_needGate e2 qc) ?_
    refine mx_aload_n dA_weight_10 rfl ?_
    refine mx_VT1 (R' := (mRT 6 136)) [] _ dA_weight_11 rfl mT_G jA_needSound_ok jA_needSound_v (mT_2 (i := 206) rfl rfl) ⟨Nat.le_of_ble_eq_true rfl, Nat.le_of_ble_eq_true rfl, Nat.le_of_ble_eq_true rfl, Nat.le_of_ble_eq_true rfl⟩ rfl rfl (Nat.le_of_ble_eq_true rfl) (Nat.le_of_ble_eq_true rfl) rfl rfl rfl (fun Qc qc => cA_needSoundT hc hsr e qc) ?_
    exact hQ
  | true =>
    rw [e] at hQ
    obtain ⟨u, u1, u2, rfl⟩ := hasG hc e1
    obtain ⟨v, v1, v2, rfl⟩ := hasG hc e2
    rw [nI_clamp (by omega)] at hQ
    refine mx_aload_n dA_weight_0 rfl ?_
    refine mx_iload_n dA_weight_1 rfl ?_
    refine mx_V1 (R' := (mR 6 92)) [_] _ dA_weight_2 rfl mT_G jA_needGate_ok jA_needGate_v lkA_135 ⟨rfl, rfl, Nat.le_of_ble_eq_true rfl, Nat.le_of_ble_eq_true rfl⟩ rfl rfl (Nat.le_of_ble_eq_true rfl) (Nat.le_of_ble_eq_true rfl) rfl rfl rfl (fun Qc qc => cA_needGate e1 qc) ?_
    refine mx_aload_n dA_weight_5 rfl ?_
    refine mx_iload_n dA_weight_6 rfl ?_
    refine mx_V1 (R' := (mR 6 92)) [_] _ dA_weight_7 rfl mT_G jA_needGate_ok jA_needGate_v lkA_135 ⟨rfl, rfl, Nat.le_of_ble_eq_true rfl, Nat.le_of_ble_eq_true rfl⟩ rfl rfl (Nat.le_of_ble_eq_true rfl) (Nat.le_of_ble_eq_true rfl) rfl rfl rfl (fun Qc qc => cA_needGate e2 qc) ?_
    refine mx_aload_n dA_weight_10 rfl ?_
    refine mx_V1 (R' := (mR 6 136)) [] _ dA_weight_11 rfl mT_G jA_needSound_ok jA_needSound_v lkA_125 ⟨rfl, rfl, Nat.le_of_ble_eq_true rfl, Nat.le_of_ble_eq_true rfl⟩ rfl rfl (Nat.le_of_ble_eq_true rfl) (Nat.le_of_ble_eq_true rfl) rfl rfl rfl (fun Qc qc => cA_needSound hc hsr e qc) ?_
    refine mx_aload_n dA_weight_14 rfl ?_
    refine mx_get 0 4 dA_weight_15 fgA_36 rfl rfl ?_
    refine mx_aload_n dA_weight_18 rfl ?_
    refine mx_get 0 0 dA_weight_19 fgA_12 rfl rfl ?_
    refine mx_aload_n dA_weight_22 rfl ?_
    refine mx_get 0 1 dA_weight_23 fgA_19 rfl rfl ?_
    refine mx_V1 (R' := (mR 3 70)) [_, _] _ dA_weight_26 rfl mT_G jH_measure_ok jH_measure_v lkA_128 ⟨rfl, rfl, Nat.le_of_ble_eq_true rfl, Nat.le_of_ble_eq_true rfl⟩ rfl rfl (Nat.le_of_ble_eq_true rfl) (Nat.le_of_ble_eq_true rfl) rfl rfl rfl (fun Qc qc => cH_measure (I := oI c I) hc hsr qc) ?_
    refine mx_aload_n dA_weight_29 rfl ?_
    refine mx_get 0 4 dA_weight_30 fgA_36 rfl rfl ?_
    refine mx_get 4 0 dA_weight_33 fgA_139 rfl rfl ?_
    refine mx_iload_n dA_weight_36 rfl ?_
    refine mx_aald dA_weight_37 rfl (vp_in_nI (by omega) (by decide)) (eg_at (by omega)) ?_
    refine mx_iload_n dA_weight_38 rfl ?_
    refine mx_iald dA_weight_39 (pic_row (by omega) (by omega)) (vp_in_nI (by omega) (by decide)) ?_
    refine mx_iret dA_weight_40 rfl rfl ?_
    exact hQ
theorem cA_delay {c : Nat} {fil : Int32} {I : Nat → Nat → Int32} {L : Nat → Nat → Int64} {Q : mx_O → List va_E → Prop} (hc : c ≤ 12) (hsr : ∀ w, w < 27 → I 12 w ≤ 12) {x y : Int32} (hQ : Q (aMat 39 c fil I L x y).1 (aMat 39 c fil I L x y).2) : mx_W mx_K mT mCl jA_delay (mRT 7 156) 0 [.ref 0, .int x, .int y] [] (pic (nI c) fil I L) Q := by
  unfold aMat at hQ
  by_cases e1 : qP_hasGate (nI c) x = 0
  · rw [if_pos e1] at hQ
    refine mx_aload_n dA_delay_0 rfl ?_
    refine mx_iload_n dA_delay_1 rfl ?_
    refine mx_VT1 (R' := (mRT 6 92)) [_] _ dA_delay_2 rfl mT_G jA_needGate_ok jA_needGate_v (mT_3 (i := 19) rfl rfl) ⟨Nat.le_of_ble_eq_true rfl, Nat.le_of_ble_eq_true rfl, Nat.le_of_ble_eq_true rfl, Nat.le_of_ble_eq_true rfl⟩ rfl rfl (Nat.le_of_ble_eq_true rfl) (Nat.le_of_ble_eq_true rfl) rfl rfl rfl (fun Qc qc => cA_needGateT e1 qc) ?_
    exact hQ
  by_cases e2 : qP_hasGate (nI c) y = 0
  · rw [if_neg e1, if_pos e2] at hQ
    refine mx_aload_n dA_delay_0 rfl ?_
    refine mx_iload_n dA_delay_1 rfl ?_
    refine mx_V1 (R' := (mR 6 92)) [_] _ dA_delay_2 rfl mT_G jA_needGate_ok jA_needGate_v lkA_135 ⟨rfl, rfl, Nat.le_of_ble_eq_true rfl, Nat.le_of_ble_eq_true rfl⟩ rfl rfl (Nat.le_of_ble_eq_true rfl) (Nat.le_of_ble_eq_true rfl) rfl rfl rfl (fun Qc qc => cA_needGate e1 qc) ?_
    refine mx_aload_n dA_delay_5 rfl ?_
    refine mx_iload_n dA_delay_6 rfl ?_
    refine mx_VT1 (R' := (mRT 6 92)) [_] _ dA_delay_7 rfl mT_G jA_needGate_ok jA_needGate_v (mT_3 (i := 19) rfl rfl) ⟨Nat.le_of_ble_eq_true rfl, Nat.le_of_ble_eq_true rfl, Nat.le_of_ble_eq_true rfl, Nat.le_of_ble_eq_true rfl⟩ rfl rfl (Nat.le_of_ble_eq_true rfl) (Nat.le_of_ble_eq_true rfl) rfl rfl rfl (fun Qc qc => cA_needGateT e2 qc) ?_
    exact hQ
  rw [if_neg e1, if_neg e2] at hQ
  cases e : sndB c I with
  | false =>
    rw [e] at hQ
    refine mx_aload_n dA_delay_0 rfl ?_
    refine mx_iload_n dA_delay_1 rfl ?_
    refine mx_V1 (R' := (mR 6 92)) [_] _ dA_delay_2 rfl mT_G jA_needGate_ok jA_needGate_v lkA_135 ⟨rfl, rfl, Nat.le_of_ble_eq_true rfl, Nat.le_of_ble_eq_true rfl⟩ rfl rfl (Nat.le_of_ble_eq_true rfl) (Nat.le_of_ble_eq_true rfl) rfl rfl rfl (fun Qc qc => cA_needGate e1 qc) ?_
    refine mx_aload_n dA_delay_5 rfl ?_
    refine mx_iload_n dA_delay_6 rfl ?_
    refine mx_V1 (R' := (mR 6 92)) [_] _ dA_delay_7 rfl mT_G jA_needGate_ok jA_needGate_v lkA_135 ⟨rfl, rfl, Nat.le_of_ble_eq_true rfl, Nat.le_of_ble_eq_true rfl⟩ rfl rfl (Nat.le_of_ble_eq_true rfl) (Nat.le_of_ble_eq_true rfl) rfl rfl rfl (fun Qc qc => cA_needGate e2 qc) ?_
    refine mx_aload_n dA_delay_10 rfl ?_
    refine mx_VT1 (R' := (mRT 6 136)) [] _ dA_delay_11 rfl mT_G jA_needSound_ok jA_needSound_v (mT_2 (i := 206) rfl rfl) ⟨Nat.le_of_ble_eq_true rfl, Nat.le_of_ble_eq_true rfl, Nat.le_of_ble_eq_true rfl, Nat.le_of_ble_eq_true rfl⟩ rfl rfl (Nat.le_of_ble_eq_true rfl) (Nat.le_of_ble_eq_true rfl) rfl rfl rfl (fun Qc qc => cA_needSoundT hc hsr e qc) ?_
    exact hQ
  | true =>
    rw [e] at hQ
    obtain ⟨u, u1, u2, rfl⟩ := hasG hc e1
    obtain ⟨v, v1, v2, rfl⟩ := hasG hc e2
    rw [nI_clamp (by omega)] at hQ
    refine mx_aload_n dA_delay_0 rfl ?_
    refine mx_iload_n dA_delay_1 rfl ?_
    refine mx_V1 (R' := (mR 6 92)) [_] _ dA_delay_2 rfl mT_G jA_needGate_ok jA_needGate_v lkA_135 ⟨rfl, rfl, Nat.le_of_ble_eq_true rfl, Nat.le_of_ble_eq_true rfl⟩ rfl rfl (Nat.le_of_ble_eq_true rfl) (Nat.le_of_ble_eq_true rfl) rfl rfl rfl (fun Qc qc => cA_needGate e1 qc) ?_
    refine mx_aload_n dA_delay_5 rfl ?_
    refine mx_iload_n dA_delay_6 rfl ?_
    refine mx_V1 (R' := (mR 6 92)) [_] _ dA_delay_7 rfl mT_G jA_needGate_ok jA_needGate_v lkA_135 ⟨rfl, rfl, Nat.le_of_ble_eq_true rfl, Nat.le_of_ble_eq_true rfl⟩ rfl rfl (Nat.le_of_ble_eq_true rfl) (Nat.le_of_ble_eq_true rfl) rfl rfl rfl (fun Qc qc => cA_needGate e2 qc) ?_
    refine mx_aload_n dA_delay_10 rfl ?_
    refine mx_V1 (R' := (mR 6 136)) [] _ dA_delay_11 rfl mT_G jA_needSound_ok jA_needSound_v lkA_125 ⟨rfl, rfl, Nat.le_of_ble_eq_true rfl, Nat.le_of_ble_eq_true rfl⟩ rfl rfl (Nat.le_of_ble_eq_true rfl) (Nat.le_of_ble_eq_true rfl) rfl rfl rfl (fun Qc qc => cA_needSound hc hsr e qc) ?_
    refine mx_aload_n dA_delay_14 rfl ?_
    refine mx_get 0 4 dA_delay_15 fgA_36 rfl rfl ?_
    refine mx_aload_n dA_delay_18 rfl ?_
    refine mx_get 0 0 dA_delay_19 fgA_12 rfl rfl ?_
    refine mx_aload_n dA_delay_22 rfl ?_
    refine mx_get 0 1 dA_delay_23 fgA_19 rfl rfl ?_
    refine mx_V1 (R' := (mR 3 70)) [_, _] _ dA_delay_26 rfl mT_G jH_measure_ok jH_measure_v lkA_128 ⟨rfl, rfl, Nat.le_of_ble_eq_true rfl, Nat.le_of_ble_eq_true rfl⟩ rfl rfl (Nat.le_of_ble_eq_true rfl) (Nat.le_of_ble_eq_true rfl) rfl rfl rfl (fun Qc qc => cH_measure (I := oI c I) hc hsr qc) ?_
    refine mx_aload_n dA_delay_29 rfl ?_
    refine mx_get 0 4 dA_delay_30 fgA_36 rfl rfl ?_
    refine mx_get 4 1 dA_delay_33 fgA_143 rfl rfl ?_
    refine mx_iload_n dA_delay_36 rfl ?_
    refine mx_aald dA_delay_37 rfl (vp_in_nI (by omega) (by decide)) (eg_at (by omega)) ?_
    refine mx_iload_n dA_delay_38 rfl ?_
    refine mx_iald dA_delay_39 (pic_row (by omega) (by omega)) (vp_in_nI (by omega) (by decide)) ?_
    refine mx_iret dA_delay_40 rfl rfl ?_
    exact hQ
end
section
/-! MovedRegisters: shared, retime, least, tick. -/
def aMost (I : Nat → Nat → Int32) (x : Int32) : Int32 := lp (fun w m => if ¬ I 12 w = x then m else if m < I 13 w then I 13 w else m) 27 0
theorem cA_mostFrom {c : Nat} {fil : Int32} {I : Nat → Nat → Int32} {L : Nat → Nat → Int64} {Q : mx_O → List va_E → Prop} {x : Int32} (hQ : Q (.inl (some (.int (aMost I x)))) (pic (nI c) fil I L)) : mx_W mx_K mT mCl jA_mostFrom (mR 1 24) 0 [.ref 0, .int x, .retAddr 0, .retAddr 0] [] (pic (nI c) fil I L) Q := by
  have hloop : ∀ i, i ≤ 27 → mx_W mx_K mT mCl jA_mostFrom (mR 1 24) 4 [.ref 0, .int x, .int (lp (fun w m => if ¬ I 12 w = x then m else if m < I 13 w then I 13 w else m) i 0), .int (nI i)] [] (pic (nI c) fil I L) Q := by
    refine lp_down ?_ ?_
    · refine mx_iload_n dA_mostFrom_4 rfl ?_
      refine mx_bipush (27) dA_mostFrom_5 (by decide) ?_
      refine mx_icmp_ge 42 dA_mostFrom_7 rfl (fun h7 => ?_) (fun h7 => ?_)
      rotate_left
      · exact absurd (show (27 : Int32) ≤ nI 27 by decide) h7
      refine mx_iload_n dA_mostFrom_42 rfl ?_
      refine mx_iret dA_mostFrom_43 rfl rfl ?_
      unfold aMost at hQ
      exact hQ
    · intro i hi ih
      have ih : mx_W mx_K mT mCl jA_mostFrom (mR 1 24) 4 [.ref 0, .int x, .int ((fun w m => if ¬ I 12 w = x then m else if m < I 13 w then I 13 w else m) i (lp (fun w m => if ¬ I 12 w = x then m else if m < I 13 w then I 13 w else m) i 0)), .int (nI (i + 1))] [] (pic (nI c) fil I L) Q := ih
      generalize lp (fun w m => if ¬ I 12 w = x then m else if m < I 13 w then I 13 w else m) i 0 = m at ih ⊢
      dsimp only at ih
      refine mx_iload_n dA_mostFrom_4 rfl ?_
      refine mx_bipush (27) dA_mostFrom_5 (by decide) ?_
      refine mx_icmp_ge 42 dA_mostFrom_7 rfl (fun h7 => ?_) (fun h7 => ?_)
      · exact absurd h7 (nI_ge (b := 27) hi (by decide))
      refine mx_aload_n dA_mostFrom_10 rfl ?_
      refine mx_get 0 0 dA_mostFrom_11 fgA_12 rfl rfl ?_
      refine mx_get 1 3 dA_mostFrom_14 fgA_94 rfl rfl ?_
      refine mx_iload_n dA_mostFrom_17 rfl ?_
      refine mx_iald dA_mostFrom_18 rfl (vp_in_nI (by omega) (by decide)) ?_
      rw [nI_clamp (by omega)]
      refine mx_iload_n dA_mostFrom_19 rfl ?_
      refine mx_icmp_ne 36 dA_mostFrom_20 rfl (fun h20 => ?_) (fun h20 => ?_)
      · first | rw [if_pos h20] at ih | rw [if_neg (fun e => e h20)] at ih
        refine mx_iinc dA_mostFrom_36 rfl (mx_inc _) (Nat.le_of_ble_eq_true rfl) rfl ?_
        refine mx_goto 4 dA_mostFrom_39 rfl ?_
        exact ih
      · refine mx_iload_n dA_mostFrom_23 rfl ?_
        refine mx_aload_n dA_mostFrom_24 rfl ?_
        refine mx_get 0 1 dA_mostFrom_25 fgA_19 rfl rfl ?_
        refine mx_iload_n dA_mostFrom_28 rfl ?_
        refine mx_V1 (R' := (mR 0 0)) [_] _ dA_mostFrom_29 rfl mT_G jB_length_ok jB_length_v lkA_117 ⟨rfl, rfl, Nat.le_of_ble_eq_true rfl, Nat.le_of_ble_eq_true rfl⟩ rfl rfl (Nat.le_of_ble_eq_true rfl) (Nat.le_of_ble_eq_true rfl) rfl rfl rfl (fun Qc qc => cB_length pic_B (vp_in_nI (by omega) (by decide)) qc) ?_
        rw [nI_clamp (by omega)]
        refine mx_max dA_mostFrom_32 (mT_3 (i := 83) rfl rfl) (mT_1 (i := 235) rfl rfl) (mT_1 (i := 17) rfl rfl) (mT_1 (i := 236) rfl rfl) (Nat.le_of_ble_eq_true rfl) (Nat.le_of_ble_eq_true rfl) ?_
        refine mx_istore_n dA_mostFrom_35 (Nat.le_of_ble_eq_true rfl) rfl ?_
        first | rw [if_pos h20] at ih | rw [if_neg (fun e => e h20)] at ih
        refine mx_iinc dA_mostFrom_36 rfl (mx_inc _) (Nat.le_of_ble_eq_true rfl) rfl ?_
        refine mx_goto 4 dA_mostFrom_39 rfl ?_
        exact ih
  refine mx_iconst (0) dA_mostFrom_0 (by decide) ?_
  refine mx_istore_n dA_mostFrom_1 (Nat.le_of_ble_eq_true rfl) rfl ?_
  refine mx_iconst (0) dA_mostFrom_2 (by decide) ?_
  refine mx_istore_n dA_mostFrom_3 (Nat.le_of_ble_eq_true rfl) rfl ?_
  exact hloop 0 (Nat.zero_le _)
def aSum (c : Nat) (I : Nat → Nat → Int32) : Int32 := lp (fun i s => s + aMost I (nI i - 3)) (c + 4) 0
def aShr (c : Nat) (fil : Int32) (I : Nat → Nat → Int32) (L : Nat → Nat → Int64) : aR := if sndB c I = true then (.inl (some (.int (aSum c (oI c I)))), pic (nI c) (nI c) (oI c I) L) else (.inr 3, sndH c fil I L)
theorem shr_inc (i : Nat) : nI i - 3 + Int32.ofInt 1 = nI (i + 1) - 3 := by
  rw [nI_succ, show Int32.ofInt 1 = 1 from rfl, Int32.sub_eq_add_neg, Int32.sub_eq_add_neg, Int32.add_assoc, Int32.add_assoc, Int32.add_comm (-3) 1]
theorem shr_lt {c i : Nat} (hc : c ≤ 12) (hi : i ≤ 16) : nI c < nI i - 3 ↔ c + 3 < i := by
  rw [show (3 : Int32) = nI 3 from rfl, Int32.lt_iff_toInt_lt, pk_sub_toInt (by omega) (by decide), nI_toInt (by omega)]
  omega
theorem cA_shared {c : Nat} {fil : Int32} {I : Nat → Nat → Int32} {L : Nat → Nat → Int64} {Q : mx_O → List va_E → Prop} (hc : c ≤ 12) (hsr : ∀ w, w < 27 → I 12 w ≤ 12) (hQ : Q (aShr c fil I L).1 (aShr c fil I L).2) : mx_W mx_K mT mCl jA_shared (mRT 7 156) 0 [.ref 0, .retAddr 0, .retAddr 0] [] (pic (nI c) fil I L) Q := by
  unfold aShr at hQ
  cases e : sndB c I with
  | false =>
    rw [e] at hQ
    refine mx_aload_n dA_shared_0 rfl ?_
    refine mx_VT1 (R' := (mRT 6 136)) [] _ dA_shared_1 rfl mT_G jA_needSound_ok jA_needSound_v (mT_2 (i := 206) rfl rfl) ⟨Nat.le_of_ble_eq_true rfl, Nat.le_of_ble_eq_true rfl, Nat.le_of_ble_eq_true rfl, Nat.le_of_ble_eq_true rfl⟩ rfl rfl (Nat.le_of_ble_eq_true rfl) (Nat.le_of_ble_eq_true rfl) rfl rfl rfl (fun Qc qc => cA_needSoundT hc hsr e qc) ?_
    exact hQ
  | true =>
    rw [e] at hQ
    have hloop : ∀ i, i ≤ c + 4 → mx_W mx_K mT mCl jA_shared (mRT 7 156) 9 [.ref 0, .int (lp (fun i s => s + aMost (oI c I) (nI i - 3)) i 0), .int (nI i - 3)] [] (pic (nI c) (nI c) (oI c I) L) Q := by
      refine lp_down ?_ ?_
      · refine mx_iload_n dA_shared_9 rfl ?_
        refine mx_aload_n dA_shared_10 rfl ?_
        refine mx_get 0 0 dA_shared_11 fgA_12 rfl rfl ?_
        refine mx_get 1 0 dA_shared_14 fgA_68 rfl rfl ?_
        refine mx_icmp_gt 34 dA_shared_17 rfl (fun h17 => ?_) (fun h17 => ?_)
        rotate_left
        · exact absurd ((shr_lt hc (by omega)).mpr (by omega)) h17
        refine mx_iload_n dA_shared_34 rfl ?_
        refine mx_iret dA_shared_35 rfl rfl ?_
        exact hQ
      · intro i hi ih
        refine mx_iload_n dA_shared_9 rfl ?_
        refine mx_aload_n dA_shared_10 rfl ?_
        refine mx_get 0 0 dA_shared_11 fgA_12 rfl rfl ?_
        refine mx_get 1 0 dA_shared_14 fgA_68 rfl rfl ?_
        refine mx_icmp_gt 34 dA_shared_17 rfl (fun h17 => ?_) (fun h17 => ?_)
        · exact absurd ((shr_lt hc (by omega)).mp h17) (by omega)
        refine mx_iload_n dA_shared_20 rfl ?_
        refine mx_aload_n dA_shared_21 rfl ?_
        refine mx_iload_n dA_shared_22 rfl ?_
        refine mx_V1 (R' := (mR 1 24)) [_] _ dA_shared_23 rfl mT_G jA_mostFrom_ok jA_mostFrom_v lkA_154 ⟨rfl, rfl, Nat.le_of_ble_eq_true rfl, Nat.le_of_ble_eq_true rfl⟩ rfl rfl (Nat.le_of_ble_eq_true rfl) (Nat.le_of_ble_eq_true rfl) rfl rfl rfl (fun Qc qc => cA_mostFrom qc) ?_
        refine mx_iadd dA_shared_26 ?_
        refine mx_istore_n dA_shared_27 (Nat.le_of_ble_eq_true rfl) rfl ?_
        refine mx_iinc dA_shared_28 rfl (shr_inc i) (Nat.le_of_ble_eq_true rfl) rfl ?_
        refine mx_goto 9 dA_shared_31 rfl ?_
        exact ih
    refine mx_aload_n dA_shared_0 rfl ?_
    refine mx_V1 (R' := (mR 6 136)) [] _ dA_shared_1 rfl mT_G jA_needSound_ok jA_needSound_v lkA_125 ⟨rfl, rfl, Nat.le_of_ble_eq_true rfl, Nat.le_of_ble_eq_true rfl⟩ rfl rfl (Nat.le_of_ble_eq_true rfl) (Nat.le_of_ble_eq_true rfl) rfl rfl rfl (fun Qc qc => cA_needSound hc hsr e qc) ?_
    refine mx_iconst (0) dA_shared_4 (by decide) ?_
    refine mx_istore_n dA_shared_5 (Nat.le_of_ble_eq_true rfl) rfl ?_
    refine mx_bipush (-3) dA_shared_6 (by decide) ?_
    refine mx_istore_n dA_shared_8 (Nat.le_of_ble_eq_true rfl) rfl ?_
    refine mx_eqs rfl ?_ rfl rfl (hloop 0 (Nat.zero_le _))
    rw [show nI 0 - 3 = -3 from by decide]
    rfl
def mI (I : Nat → Nat → Int32) (s : mS) : Nat → Nat → Int32 := upI (upI I 23 s.2) 15 s.1.1
def mL (L : Nat → Nat → Int64) (s : mS) : Nat → Nat → Int64 := upL L 16 s.1.2
def vI1 (c : Nat) (hi : Int32) (I : Nat → Nat → Int32) : Nat → Nat → Int32 := upI (upI I 21 (lSol c hi I).1) 15 (I 13)
def vL1 (L : Nat → Nat → Int64) : Nat → Nat → Int64 := upL L 16 (L 14)
/-- behind moves on the trial bank -/
def vF (c : Nat) (hi : Int32) (I : Nat → Nat → Int32) (L : Nat → Nat → Int64) : mS × Bool := mFol c (vI1 c hi I) (vL1 L)
def vI2 (c : Nat) (hi : Int32) (I : Nat → Nat → Int32) (L : Nat → Nat → Int64) : Nat → Nat → Int32 := mI (vI1 c hi I) (vF c hi I L).1
def vL2 (c : Nat) (hi : Int32) (I : Nat → Nat → Int32) (L : Nat → Nat → Int64) : Nat → Nat → Int64 := mL (vL1 L) (vF c hi I L).1
def vI3 (c : Nat) (I : Nat → Nat → Int32) : Nat → Nat → Int32 := upI (upI I 13 (I 15)) 9 (va_cpy (I 21) (I 9) 0 0 (c + 1))
def vL3 (L : Nat → Nat → Int64) : Nat → Nat → Int64 := upL L 14 (L 16)
/-- what moveUpTo answers and leaves -/
def aMv (c : Nat) (hi : Int32) (I : Nat → Nat → Int32) (L : Nat → Nat → Int64) : Bool × (Nat → Nat → Int32) × (Nat → Nat → Int64) := if (lSol c hi I).2 = true then (if (vF c hi I L).2 = true then (true, begI (vI3 c (vI2 c hi I L)), begL (vL3 (vL2 c hi I L))) else (false, vI2 c hi I L, vL2 c hi I L)) else (false, upI I 21 (lSol c hi I).1, L)
theorem cA_moveUpTo {c : Nat} {fil : Int32} {I : Nat → Nat → Int32} {L : Nat → Nat → Int64} {Q : mx_O → List va_E → Prop} (hc : c ≤ 12) {hi : Int32} (hQ : Q (.inl (some (.int (i01 (aMv c hi I L).1)))) (pic (nI c) fil (aMv c hi I L).2.1 (aMv c hi I L).2.2)) : mx_W mx_K mT mCl jA_moveUpTo (mR 5 122) 0 [.ref 0, .int hi] [] (pic (nI c) fil I L) Q := by
  unfold aMv at hQ
  refine mx_aload_n dA_moveUpTo_0 rfl ?_
  refine mx_get 0 5 dA_moveUpTo_1 fgA_43 rfl rfl ?_
  refine mx_aload_n dA_moveUpTo_4 rfl ?_
  refine mx_get 0 0 dA_moveUpTo_5 fgA_12 rfl rfl ?_
  refine mx_get 1 0 dA_moveUpTo_8 fgA_68 rfl rfl ?_
  refine mx_iload_n dA_moveUpTo_11 rfl ?_
  refine mx_V1 (R' := (mR 1 24)) [_, _] _ dA_moveUpTo_12 rfl mT_G jL_solve_ok jL_solve_v lkA_150 ⟨rfl, rfl, Nat.le_of_ble_eq_true rfl, Nat.le_of_ble_eq_true rfl⟩ rfl rfl (Nat.le_of_ble_eq_true rfl) (Nat.le_of_ble_eq_true rfl) rfl rfl rfl (fun Qc qc => cL_solve hc qc) ?_
  refine mx_if_ne 20 dA_moveUpTo_15 rfl (fun h15 => ?_) (fun h15 => ?_)
  · refine mx_aload_n dA_moveUpTo_20 rfl ?_
    refine mx_get 0 2 dA_moveUpTo_21 fgA_23 rfl rfl ?_
    refine mx_aload_n dA_moveUpTo_24 rfl ?_
    refine mx_get 0 1 dA_moveUpTo_25 fgA_19 rfl rfl ?_
    refine mx_V1 (R' := (mR 1 60)) [_] _ dA_moveUpTo_28 rfl mT_G jB_copy_ok jB_copy_v lkA_193 ⟨rfl, rfl, Nat.le_of_ble_eq_true rfl, Nat.le_of_ble_eq_true rfl⟩ rfl rfl (Nat.le_of_ble_eq_true rfl) (Nat.le_of_ble_eq_true rfl) rfl rfl rfl (fun Qc qc => cB_copy pic_T pic_B (by decide) (by decide) qc) ?_
    refine mx_eqs (hp' := pic (nI c) fil (vI1 c hi I) (vL1 L)) rfl rfl rfl rfl ?_
    refine mx_aload_n dA_moveUpTo_31 rfl ?_
    refine mx_get 0 6 dA_moveUpTo_32 fgA_50 rfl rfl ?_
    refine mx_aload_n dA_moveUpTo_35 rfl ?_
    refine mx_get 0 0 dA_moveUpTo_36 fgA_12 rfl rfl ?_
    refine mx_aload_n dA_moveUpTo_39 rfl ?_
    refine mx_get 0 2 dA_moveUpTo_40 fgA_23 rfl rfl ?_
    refine mx_aload_n dA_moveUpTo_43 rfl ?_
    refine mx_get 0 5 dA_moveUpTo_44 fgA_43 rfl rfl ?_
    refine mx_get 5 0 dA_moveUpTo_47 fgA_196 rfl rfl ?_
    refine mx_V1 (R' := (mR 4 98)) [_, _, _] _ dA_moveUpTo_50 rfl mT_G jV_follow_ok jV_follow_v lkA_199 ⟨rfl, rfl, Nat.le_of_ble_eq_true rfl, Nat.le_of_ble_eq_true rfl⟩ rfl rfl (Nat.le_of_ble_eq_true rfl) (Nat.le_of_ble_eq_true rfl) rfl rfl rfl (fun Qc qc => cV_follow hc qc) ?_
    show mx_W mx_K mT mCl jA_moveUpTo (mR 5 122) _ _ (.int (i01 (vF c hi I L).2) :: _) (pic (nI c) fil (vI2 c hi I L) (vL2 c hi I L)) _
    refine mx_if_ne 58 dA_moveUpTo_53 rfl (fun h53 => ?_) (fun h53 => ?_)
    · refine mx_aload_n dA_moveUpTo_58 rfl ?_
      refine mx_get 0 1 dA_moveUpTo_59 fgA_19 rfl rfl ?_
      refine mx_aload_n dA_moveUpTo_62 rfl ?_
      refine mx_get 0 2 dA_moveUpTo_63 fgA_23 rfl rfl ?_
      refine mx_V1 (R' := (mR 1 60)) [_] _ dA_moveUpTo_66 rfl mT_G jB_copy_ok jB_copy_v lkA_193 ⟨rfl, rfl, Nat.le_of_ble_eq_true rfl, Nat.le_of_ble_eq_true rfl⟩ rfl rfl (Nat.le_of_ble_eq_true rfl) (Nat.le_of_ble_eq_true rfl) rfl rfl rfl (fun Qc qc => cB_copy pic_B pic_T (by decide) (by decide) qc) ?_
      refine mx_eqs (hp' := pic (nI c) fil (upI (vI2 c hi I L) 13 (vI2 c hi I L 15)) (vL3 (vL2 c hi I L))) rfl rfl rfl rfl ?_
      refine mx_aload_n dA_moveUpTo_69 rfl ?_
      refine mx_get 0 5 dA_moveUpTo_70 fgA_43 rfl rfl ?_
      refine mx_get 5 0 dA_moveUpTo_73 fgA_196 rfl rfl ?_
      refine mx_iconst (0) dA_moveUpTo_76 (by decide) ?_
      refine mx_aload_n dA_moveUpTo_77 rfl ?_
      refine mx_get 0 8 dA_moveUpTo_78 fgA_61 rfl rfl ?_
      refine mx_iconst (0) dA_moveUpTo_81 (by decide) ?_
      refine mx_aload_n dA_moveUpTo_82 rfl ?_
      refine mx_get 0 0 dA_moveUpTo_83 fgA_12 rfl rfl ?_
      refine mx_get 1 0 dA_moveUpTo_86 fgA_68 rfl rfl ?_
      refine mx_iconst (1) dA_moveUpTo_89 (by decide) ?_
      refine mx_iadd dA_moveUpTo_90 ?_
      rw [show nI c + 1 = nI (c + 1) from nI_1 c]
      refine mx_copyi dA_moveUpTo_91 (mT_3 (i := 158) rfl rfl) (mT_2 (i := 15) rfl rfl) (mT_2 (i := 14) rfl rfl) (mT_1 (i := 15) rfl rfl) (b0 := 21) (b1 := 9) rfl rfl (by decide) (by decide) (nI_pos (by omega)) (by rw [nI_clamp (by omega), sb_cl0]; omega) (by rw [nI_clamp (by omega), sb_cl0]; omega) (Nat.le_of_ble_eq_true rfl) (Nat.le_of_ble_eq_true rfl) ?_
      rw [nI_clamp (by omega), sb_cl0]
      refine mx_eqs (hp' := pic (nI c) fil (vI3 c (vI2 c hi I L)) (vL3 (vL2 c hi I L))) rfl rfl rfl rfl ?_
      refine mx_aload_n dA_moveUpTo_94 rfl ?_
      refine mx_get 0 7 dA_moveUpTo_95 fgA_57 rfl rfl ?_
      refine mx_aload_n dA_moveUpTo_98 rfl ?_
      refine mx_get 0 1 dA_moveUpTo_99 fgA_19 rfl rfl ?_
      refine mx_V1 (R' := (mR 2 81)) [_] _ dA_moveUpTo_102 rfl mT_G jC_begin_ok jC_begin_v lkA_79 ⟨rfl, rfl, Nat.le_of_ble_eq_true rfl, Nat.le_of_ble_eq_true rfl⟩ rfl rfl (Nat.le_of_ble_eq_true rfl) (Nat.le_of_ble_eq_true rfl) rfl rfl rfl (fun Qc qc => cC_begin (bs := 24) (kv0 := 25) (kl := 65) (kv := 66) (kl2 := 13) (kv2 := 14) rfl pic_S pic_B (by decide) (by decide) qc) ?_
      rw [pic_beg]
      refine mx_iconst (1) dA_moveUpTo_105 (by decide) ?_
      refine mx_iret dA_moveUpTo_106 rfl rfl ?_
      rw [if_pos (i01_nz h15), if_pos (i01_nz h53)] at hQ
      exact hQ
    · refine mx_iconst (0) dA_moveUpTo_56 (by decide) ?_
      refine mx_iret dA_moveUpTo_57 rfl rfl ?_
      rw [if_pos (i01_nz h15), if_neg (by rw [i01_z h53]; decide)] at hQ
      exact hQ
  · refine mx_iconst (0) dA_moveUpTo_18 (by decide) ?_
    refine mx_iret dA_moveUpTo_19 rfl rfl ?_
    rw [if_neg (by rw [i01_z h15]; decide)] at hQ
    exact hQ
def rI (c : Nat) (k : Int32) (I : Nat → Nat → Int32) : Nat → Nat → Int32 := lSet c k (aI2 c I)
def aRet (c : Nat) (fil : Int32) (I : Nat → Nat → Int32) (L : Nat → Nat → Int64) (k : Int32) : aR := if sndB c I = true then (if k < 0 then (.inr 0, pic (nI c) (nI c) (oI c I) L) else if ¬ k ≤ 600 then (.inr 0, pic (nI c) (nI c) (oI c I) L) else if (aMv c 6 (rI c k I) L).1 = true then (.inl (some (.int 2)), pic (nI c) (nI c) (aMv c 6 (rI c k I) L).2.1 (aMv c 6 (rI c k I) L).2.2)
  else if (aMv c 0 (aMv c 6 (rI c k I) L).2.1 (aMv c 6 (rI c k I) L).2.2).1 = true then (.inl (some (.int 1)), pic (nI c) (nI c) (aMv c 0 (aMv c 6 (rI c k I) L).2.1 (aMv c 6 (rI c k I) L).2.2).2.1 (aMv c 0 (aMv c 6 (rI c k I) L).2.1 (aMv c 6 (rI c k I) L).2.2).2.2)
  else (.inl (some (.int 0)), pic (nI c) (nI c) (aMv c 0 (aMv c 6 (rI c k I) L).2.1 (aMv c 6 (rI c k I) L).2.2).2.1 (aMv c 0 (aMv c 6 (rI c k I) L).2.1 (aMv c 6 (rI c k I) L).2.2).2.2)) else (.inr 3, sndH c fil I L)
theorem aI2_12 (c : Nat) (I : Nat → Nat → Int32) : aI2 c I 12 = I 12 := by
  unfold aI2
  rw [hMeas_low (by decide)]
  rfl
theorem cA_retime {c : Nat} {fil : Int32} {I : Nat → Nat → Int32} {L : Nat → Nat → Int64} {Q : mx_O → List va_E → Prop} (hc : c ≤ 12) (hsr : ∀ w, w < 27 → I 12 w ≤ 12) {k : Int32} (hQ : Q (aRet c fil I L k).1 (aRet c fil I L k).2) : mx_W mx_K mT mCl jA_retime (mRT 7 156) 0 [.ref 0, .int k] [] (pic (nI c) fil I L) Q := by
  unfold aRet at hQ
  cases e : sndB c I with
  | false =>
    rw [e] at hQ
    refine mx_aload_n dA_retime_0 rfl ?_
    refine mx_VT1 (R' := (mRT 6 136)) [] _ dA_retime_1 rfl mT_G jA_needSound_ok jA_needSound_v (mT_2 (i := 206) rfl rfl) ⟨Nat.le_of_ble_eq_true rfl, Nat.le_of_ble_eq_true rfl, Nat.le_of_ble_eq_true rfl, Nat.le_of_ble_eq_true rfl⟩ rfl rfl (Nat.le_of_ble_eq_true rfl) (Nat.le_of_ble_eq_true rfl) rfl rfl rfl (fun Qc qc => cA_needSoundT hc hsr e qc) ?_
    exact hQ
  | true =>
    rw [e, if_pos rfl] at hQ
    refine mx_aload_n dA_retime_0 rfl ?_
    refine mx_V1 (R' := (mR 6 136)) [] _ dA_retime_1 rfl mT_G jA_needSound_ok jA_needSound_v lkA_125 ⟨rfl, rfl, Nat.le_of_ble_eq_true rfl, Nat.le_of_ble_eq_true rfl⟩ rfl rfl (Nat.le_of_ble_eq_true rfl) (Nat.le_of_ble_eq_true rfl) rfl rfl rfl (fun Qc qc => cA_needSound hc hsr e qc) ?_
    refine mx_iload_n dA_retime_4 rfl ?_
    refine mx_if_lt 15 dA_retime_5 rfl (fun h5 => ?_) (fun h5 => ?_)
    · refine mx_throw 0 dA_retime_15 dA_retime_18 dA_retime_19 dA_retime_22 mT_G (mT_2 (i := 25) rfl rfl) (mT_2 (i := 26) rfl rfl) (mT_1 (i := 13) rfl rfl) (by decide +kernel) (tw_of tw_67) (Nat.le_of_ble_eq_true rfl) (Nat.le_of_ble_eq_true rfl) (Nat.le_refl _) (Nat.le_refl _) ?_
      first | (rw [if_pos h5] at hQ; exact hQ) | (rw [if_neg h5, if_pos h12] at hQ; exact hQ)
    · refine mx_iload_n dA_retime_8 rfl ?_
      refine mx_sipush (600) dA_retime_9 (by decide) ?_
      refine mx_icmp_le 23 dA_retime_12 rfl (fun h12 => ?_) (fun h12 => ?_)
      · rw [if_neg h5, if_neg (fun z => z h12)] at hQ
        refine mx_aload_n dA_retime_23 rfl ?_
        refine mx_get 0 4 dA_retime_24 fgA_36 rfl rfl ?_
        refine mx_aload_n dA_retime_27 rfl ?_
        refine mx_get 0 0 dA_retime_28 fgA_12 rfl rfl ?_
        refine mx_aload_n dA_retime_31 rfl ?_
        refine mx_get 0 1 dA_retime_32 fgA_19 rfl rfl ?_
        refine mx_V1 (R' := (mR 3 70)) [_, _] _ dA_retime_35 rfl mT_G jH_measure_ok jH_measure_v lkA_128 ⟨rfl, rfl, Nat.le_of_ble_eq_true rfl, Nat.le_of_ble_eq_true rfl⟩ rfl rfl (Nat.le_of_ble_eq_true rfl) (Nat.le_of_ble_eq_true rfl) rfl rfl rfl (fun Qc qc => cH_measure (I := oI c I) hc hsr qc) ?_
        refine mx_aload_n dA_retime_38 rfl ?_
        refine mx_get 0 5 dA_retime_39 fgA_43 rfl rfl ?_
        refine mx_aload_n dA_retime_42 rfl ?_
        refine mx_get 0 0 dA_retime_43 fgA_12 rfl rfl ?_
        refine mx_aload_n dA_retime_46 rfl ?_
        refine mx_get 0 1 dA_retime_47 fgA_19 rfl rfl ?_
        refine mx_aload_n dA_retime_50 rfl ?_
        refine mx_get 0 4 dA_retime_51 fgA_36 rfl rfl ?_
        refine mx_iload_n dA_retime_54 rfl ?_
        refine mx_V1 (R' := (mR 3 72)) [_, _, _, _] _ dA_retime_55 rfl mT_G jL_set_ok jL_set_v lkA_146 ⟨rfl, rfl, Nat.le_of_ble_eq_true rfl, Nat.le_of_ble_eq_true rfl⟩ rfl rfl (Nat.le_of_ble_eq_true rfl) (Nat.le_of_ble_eq_true rfl) rfl rfl rfl (fun Qc qc => cL_set (I := aI2 c I) hc (fun w hw => by rw [aI2_12]; exact hsr w hw) qc) ?_
        refine mx_aload_n dA_retime_58 rfl ?_
        refine mx_bipush (6) dA_retime_59 (by decide) ?_
        refine mx_V1 (R' := (mR 5 122)) [_] _ dA_retime_61 rfl mT_G jA_moveUpTo_ok jA_moveUpTo_v lkA_157 ⟨rfl, rfl, Nat.le_of_ble_eq_true rfl, Nat.le_of_ble_eq_true rfl⟩ rfl rfl (Nat.le_of_ble_eq_true rfl) (Nat.le_of_ble_eq_true rfl) rfl rfl rfl (fun Qc qc => cA_moveUpTo (I := rI c k I) hc qc) ?_
        refine mx_if_eq 69 dA_retime_64 rfl (fun h64 => ?_) (fun h64 => ?_)
        · refine mx_aload_n dA_retime_69 rfl ?_
          refine mx_iconst (0) dA_retime_70 (by decide) ?_
          refine mx_V1 (R' := (mR 5 122)) [_] _ dA_retime_71 rfl mT_G jA_moveUpTo_ok jA_moveUpTo_v lkA_157 ⟨rfl, rfl, Nat.le_of_ble_eq_true rfl, Nat.le_of_ble_eq_true rfl⟩ rfl rfl (Nat.le_of_ble_eq_true rfl) (Nat.le_of_ble_eq_true rfl) rfl rfl rfl (fun Qc qc => cA_moveUpTo hc qc) ?_
          refine mx_if_eq 81 dA_retime_74 rfl (fun h74 => ?_) (fun h74 => ?_)
          · refine mx_iconst (0) dA_retime_81 (by decide) ?_
            refine mx_iret dA_retime_82 rfl rfl ?_
            rw [if_neg (by rw [i01_z h64]; decide)] at hQ
            first | (rw [if_pos (i01_nz h74)] at hQ; exact hQ) | (rw [if_neg (by rw [i01_z h74]; decide)] at hQ; exact hQ)
          · refine mx_iconst (1) dA_retime_77 (by decide) ?_
            refine mx_goto 82 dA_retime_78 rfl ?_
            refine mx_iret dA_retime_82 rfl rfl ?_
            rw [if_neg (by rw [i01_z h64]; decide)] at hQ
            first | (rw [if_pos (i01_nz h74)] at hQ; exact hQ) | (rw [if_neg (by rw [i01_z h74]; decide)] at hQ; exact hQ)
        · refine mx_iconst (2) dA_retime_67 (by decide) ?_
          refine mx_iret dA_retime_68 rfl rfl ?_
          rw [if_pos (i01_nz h64)] at hQ
          exact hQ
      · refine mx_throw 0 dA_retime_15 dA_retime_18 dA_retime_19 dA_retime_22 mT_G (mT_2 (i := 25) rfl rfl) (mT_2 (i := 26) rfl rfl) (mT_1 (i := 13) rfl rfl) (by decide +kernel) (tw_of tw_67) (Nat.le_of_ble_eq_true rfl) (Nat.le_of_ble_eq_true rfl) (Nat.le_refl _) (Nat.le_refl _) ?_
        first | (rw [if_pos h5] at hQ; exact hQ) | (rw [if_neg h5, if_pos h12] at hQ; exact hQ)
def aLs (c : Nat) : Nat → Int32 → Int32 → (Nat → Nat → Int32) → Int32 × (Nat → Nat → Int32)
  | 0, _, hi, I => (hi, I)
  | n + 1, lo, hi, I => if hi ≤ lo then (hi, I) else if (lSol c 6 (lSet c ((lo + hi) / 2) I)).2 = true then aLs c n lo ((lo + hi) / 2) (upI (lSet c ((lo + hi) / 2) I) 21 (lSol c 6 (lSet c ((lo + hi) / 2) I)).1) else aLs c n ((lo + hi) / 2 + 1) hi (upI (lSet c ((lo + hi) / 2) I) 21 (lSol c 6 (lSet c ((lo + hi) / 2) I)).1)
def aLst (c : Nat) (fil : Int32) (I : Nat → Nat → Int32) (L : Nat → Nat → Int64) : aR := if sndB c I = true then (.inl (some (.int (aLs c 600 0 (hLu c (aI2 c I)) (aI2 c I)).1)), pic (nI c) (nI c) (aLs c 600 0 (hLu c (aI2 c I)) (aI2 c I)).2 L) else (.inr 3, sndH c fil I L)
theorem cA_least {c : Nat} {fil : Int32} {I : Nat → Nat → Int32} {L : Nat → Nat → Int64} {Q : mx_O → List va_E → Prop} (hc : c ≤ 12) (hsr : ∀ w, w < 27 → I 12 w ≤ 12) (hQ : Q (aLst c fil I L).1 (aLst c fil I L).2) : mx_W mx_K mT mCl jA_least (mRT 7 156) 0 [.ref 0, .retAddr 0, .retAddr 0, .retAddr 0, .retAddr 0] [] (pic (nI c) fil I L) Q := by
  unfold aLst at hQ
  cases e : sndB c I with
  | false =>
    rw [e] at hQ
    refine mx_aload_n dA_least_0 rfl ?_
    refine mx_VT1 (R' := (mRT 6 136)) [] _ dA_least_1 rfl mT_G jA_needSound_ok jA_needSound_v (mT_2 (i := 206) rfl rfl) ⟨Nat.le_of_ble_eq_true rfl, Nat.le_of_ble_eq_true rfl, Nat.le_of_ble_eq_true rfl, Nat.le_of_ble_eq_true rfl⟩ rfl rfl (Nat.le_of_ble_eq_true rfl) (Nat.le_of_ble_eq_true rfl) rfl rfl rfl (fun Qc qc => cA_needSoundT hc hsr e qc) ?_
    exact hQ
  | true =>
    rw [e, if_pos rfl] at hQ
    have hloop : ∀ r, r ≤ 600 → ∀ (lo hi : Int32) (I : Nat → Nat → Int32), (∀ w, w < 27 → I 12 w ≤ 12) → Q (.inl (some (.int (aLs c (600 - r) lo hi I).1))) (pic (nI c) (nI c) (aLs c (600 - r) lo hi I).2 L) → mx_W mx_K mT mCl jA_least (mRT 7 156) 38 [.ref 0, .int lo, .int hi, .int (nI r), .retAddr 0] [] (pic (nI c) (nI c) I L) Q := by
      refine lp_down ?_ ?_
      · intro lo hi I hsr hq
        rw [Nat.sub_self] at hq
        refine mx_iload_n dA_least_38 rfl ?_
        refine mx_sipush (600) dA_least_39 (by decide) ?_
        refine mx_icmp_ge 114 dA_least_42 rfl (fun h42 => ?_) (fun h42 => ?_)
        rotate_left
        · exact absurd (show (600 : Int32) ≤ nI 600 by decide) h42
        refine mx_iload_n dA_least_114 rfl ?_
        refine mx_iret dA_least_115 rfl rfl ?_
        exact hq
      · intro r hr ih lo hi I hsr hq
        rw [show 600 - r = (600 - (r + 1)) + 1 by omega] at hq
        unfold aLs at hq
        refine mx_iload_n dA_least_38 rfl ?_
        refine mx_sipush (600) dA_least_39 (by decide) ?_
        refine mx_icmp_ge 114 dA_least_42 rfl (fun h42 => ?_) (fun h42 => ?_)
        · exact absurd h42 (nI_ge (b := 600) hr (by decide))
        refine mx_iload_n dA_least_45 rfl ?_
        refine mx_iload_n dA_least_46 rfl ?_
        refine mx_icmp_ge 114 dA_least_47 rfl (fun h47 => ?_) (fun h47 => ?_)
        · refine mx_iload_n dA_least_114 rfl ?_
          refine mx_iret dA_least_115 rfl rfl ?_
          rw [if_pos h47] at hq
          exact hq
        · refine mx_iload_n dA_least_50 rfl ?_
          refine mx_iload_n dA_least_51 rfl ?_
          refine mx_iadd dA_least_52 ?_
          refine mx_iconst (2) dA_least_53 (by decide) ?_
          refine mx_idiv dA_least_54 (by decide) ?_
          refine mx_istore dA_least_55 (Nat.le_of_ble_eq_true rfl) rfl ?_
          refine mx_aload_n dA_least_57 rfl ?_
          refine mx_get 0 5 dA_least_58 fgA_43 rfl rfl ?_
          refine mx_aload_n dA_least_61 rfl ?_
          refine mx_get 0 0 dA_least_62 fgA_12 rfl rfl ?_
          refine mx_aload_n dA_least_65 rfl ?_
          refine mx_get 0 1 dA_least_66 fgA_19 rfl rfl ?_
          refine mx_aload_n dA_least_69 rfl ?_
          refine mx_get 0 4 dA_least_70 fgA_36 rfl rfl ?_
          refine mx_iload dA_least_73 rfl ?_
          refine mx_V1 (R' := (mR 3 72)) [_, _, _, _] _ dA_least_75 rfl mT_G jL_set_ok jL_set_v lkA_146 ⟨rfl, rfl, Nat.le_of_ble_eq_true rfl, Nat.le_of_ble_eq_true rfl⟩ rfl rfl (Nat.le_of_ble_eq_true rfl) (Nat.le_of_ble_eq_true rfl) rfl rfl rfl (fun Qc qc => cL_set hc hsr qc) ?_
          refine mx_aload_n dA_least_78 rfl ?_
          refine mx_get 0 5 dA_least_79 fgA_43 rfl rfl ?_
          refine mx_aload_n dA_least_82 rfl ?_
          refine mx_get 0 0 dA_least_83 fgA_12 rfl rfl ?_
          refine mx_get 1 0 dA_least_86 fgA_68 rfl rfl ?_
          refine mx_bipush (6) dA_least_89 (by decide) ?_
          refine mx_V1 (R' := (mR 1 24)) [_, _] _ dA_least_91 rfl mT_G jL_solve_ok jL_solve_v lkA_150 ⟨rfl, rfl, Nat.le_of_ble_eq_true rfl, Nat.le_of_ble_eq_true rfl⟩ rfl rfl (Nat.le_of_ble_eq_true rfl) (Nat.le_of_ble_eq_true rfl) rfl rfl rfl (fun Qc qc => cL_solve hc qc) ?_
          refine mx_if_eq 103 dA_least_94 rfl (fun h94 => ?_) (fun h94 => ?_)
          · refine mx_iload dA_least_103 rfl ?_
            refine mx_iconst (1) dA_least_105 (by decide) ?_
            refine mx_iadd dA_least_106 ?_
            refine mx_istore_n dA_least_107 (Nat.le_of_ble_eq_true rfl) rfl ?_
            rw [if_neg h47] at hq
            first | rw [if_pos (i01_nz h94)] at hq | rw [if_neg (by rw [i01_z h94]; decide)] at hq
            refine mx_iinc dA_least_108 rfl (mx_inc _) (Nat.le_of_ble_eq_true rfl) rfl ?_
            refine mx_goto 38 dA_least_111 rfl ?_
            refine mx_drop 4 ?_
            refine ih _ _ _ (fun w hw => ?_) hq
            rw [upI_ne _ _ (by decide), lSet_low (by decide)]
            exact hsr w hw
          · refine mx_iload dA_least_97 rfl ?_
            refine mx_istore_n dA_least_99 (Nat.le_of_ble_eq_true rfl) rfl ?_
            refine mx_goto 108 dA_least_100 rfl ?_
            rw [if_neg h47] at hq
            first | rw [if_pos (i01_nz h94)] at hq | rw [if_neg (by rw [i01_z h94]; decide)] at hq
            refine mx_iinc dA_least_108 rfl (mx_inc _) (Nat.le_of_ble_eq_true rfl) rfl ?_
            refine mx_goto 38 dA_least_111 rfl ?_
            refine mx_drop 4 ?_
            refine ih _ _ _ (fun w hw => ?_) hq
            rw [upI_ne _ _ (by decide), lSet_low (by decide)]
            exact hsr w hw
    refine mx_aload_n dA_least_0 rfl ?_
    refine mx_V1 (R' := (mR 6 136)) [] _ dA_least_1 rfl mT_G jA_needSound_ok jA_needSound_v lkA_125 ⟨rfl, rfl, Nat.le_of_ble_eq_true rfl, Nat.le_of_ble_eq_true rfl⟩ rfl rfl (Nat.le_of_ble_eq_true rfl) (Nat.le_of_ble_eq_true rfl) rfl rfl rfl (fun Qc qc => cA_needSound hc hsr e qc) ?_
    refine mx_aload_n dA_least_4 rfl ?_
    refine mx_get 0 4 dA_least_5 fgA_36 rfl rfl ?_
    refine mx_aload_n dA_least_8 rfl ?_
    refine mx_get 0 0 dA_least_9 fgA_12 rfl rfl ?_
    refine mx_aload_n dA_least_12 rfl ?_
    refine mx_get 0 1 dA_least_13 fgA_19 rfl rfl ?_
    refine mx_V1 (R' := (mR 3 70)) [_, _] _ dA_least_16 rfl mT_G jH_measure_ok jH_measure_v lkA_128 ⟨rfl, rfl, Nat.le_of_ble_eq_true rfl, Nat.le_of_ble_eq_true rfl⟩ rfl rfl (Nat.le_of_ble_eq_true rfl) (Nat.le_of_ble_eq_true rfl) rfl rfl rfl (fun Qc qc => cH_measure (I := oI c I) hc hsr qc) ?_
    refine mx_iconst (0) dA_least_19 (by decide) ?_
    refine mx_istore_n dA_least_20 (Nat.le_of_ble_eq_true rfl) rfl ?_
    refine mx_aload_n dA_least_21 rfl ?_
    refine mx_get 0 4 dA_least_22 fgA_36 rfl rfl ?_
    refine mx_aload_n dA_least_25 rfl ?_
    refine mx_get 0 0 dA_least_26 fgA_12 rfl rfl ?_
    refine mx_get 1 0 dA_least_29 fgA_68 rfl rfl ?_
    refine mx_V1 (R' := (mR 1 24)) [_] _ dA_least_32 rfl mT_G jH_longestUnregistered_ok jH_longestUnregistered_v lkA_132 ⟨rfl, rfl, Nat.le_of_ble_eq_true rfl, Nat.le_of_ble_eq_true rfl⟩ rfl rfl (Nat.le_of_ble_eq_true rfl) (Nat.le_of_ble_eq_true rfl) rfl rfl rfl (fun Qc qc => cH_longestUnregistered hc qc) ?_
    refine mx_istore_n dA_least_35 (Nat.le_of_ble_eq_true rfl) rfl ?_
    refine mx_iconst (0) dA_least_36 (by decide) ?_
    refine mx_istore_n dA_least_37 (Nat.le_of_ble_eq_true rfl) rfl ?_
    exact hloop 0 (Nat.zero_le _) _ _ (aI2 c I) (fun w hw => by rw [aI2_12]; exact hsr w hw) hQ
theorem oStep_pl {rd : (Nat → Int32) → Nat → Bool} {c g : Nat} {s : oS} (g1 : 1 ≤ g) (g2 : g ≤ c) (h : ∀ a, a < s.2.2 → ∃ γ, 1 ≤ γ ∧ γ ≤ c ∧ s.2.1 a = nI γ) : ∀ a, a < (oStep rd g s).2.2 → ∃ γ, 1 ≤ γ ∧ γ ≤ c ∧ (oStep rd g s).2.1 a = nI γ := by
  unfold oStep
  split
  · split
    · intro a ha
      have ha : a < s.2.2 + 1 := ha
      show ∃ γ, 1 ≤ γ ∧ γ ≤ c ∧ upd s.2.1 s.2.2 (nI g) a = nI γ
      by_cases e : a = s.2.2
      · subst e; exact ⟨g, g1, g2, pk_us⟩
      · rw [pk_un e]; exact h a (by omega)
    · exact h
  · exact h
theorem oRound_pl {rd : (Nat → Int32) → Nat → Bool} {c : Nat} {s : oS} (h : ∀ a, a < s.2.2 → ∃ γ, 1 ≤ γ ∧ γ ≤ c ∧ s.2.1 a = nI γ) : ∀ a, a < (oRound rd c s).2.2 → ∃ γ, 1 ≤ γ ∧ γ ≤ c ∧ (oRound rd c s).2.1 a = nI γ := by
  unfold oRound
  exact lp_keep (P := fun (s : oS) => ∀ a, a < s.2.2 → ∃ γ, 1 ≤ γ ∧ γ ≤ c ∧ s.2.1 a = nI γ) h c (fun i t hi ht => oStep_pl (by omega) (by omega) ht)
theorem oRun_pl {rd : (Nat → Int32) → Nat → Bool} {c : Nat} : ∀ (n : Nat) (s : oS), (∀ a, a < s.2.2 → ∃ γ, 1 ≤ γ ∧ γ ≤ c ∧ s.2.1 a = nI γ) → ∀ a, a < (oRun rd c n s).2.2 → ∃ γ, 1 ≤ γ ∧ γ ≤ c ∧ (oRun rd c n s).2.1 a = nI γ
  | 0, s, h => h
  | n + 1, s, h => by
    unfold oRun
    split
    · exact oRun_pl n _ (oRound_pl h)
    · exact h
theorem oFin_pl {c : Nat} {I : Nat → Nat → Int32} (h : sndB c I = true) : ∀ a, a < c → ∃ γ, 1 ≤ γ ∧ γ ≤ c ∧ oI c I 17 a = nI γ := by
  unfold sndB at h
  have h2 := of_decide_eq_true (Bool.and_eq_true_iff.mp h).2
  intro a ha
  exact oRun_pl c _ (fun a ha => absurd ha (Nat.not_lt_zero a)) a (by unfold oFin at h2; rw [h2]; exact ha)
def tI1 (c : Nat) (I : Nat → Nat → Int32) (x y z : Int32) : Nat → Nat → Int32 := upI (oI c I) 25 (cIn (I 25) x y z)
def tI2 (c : Nat) (I : Nat → Nat → Int32) (L : Nat → Nat → Int64) (x y z : Int32) : Nat → Nat → Int32 := upI (tI1 c I x y z) 25 (cSet (I 10) (I 12) (I 65) (L 66) (fun a => (oI c I 17 a).toNatClampNeg) c (cIn (I 25) x y z))
def aTick (c : Nat) (fil : Int32) (I : Nat → Nat → Int32) (L : Nat → Nat → Int64) (x y z : Int32) : aR := if sndB c I = true then (if aVal x = 0 then (.inr 0, pic (nI c) (nI c) (oI c I) L) else if aVal y = 0 then (.inr 0, pic (nI c) (nI c) (oI c I) L) else if ¬ aVal z = 0 then (.inl (some (.int (cOut (I 12) (I 65) (L 66) (tI2 c I L x y z 25)))), kPic c (nI c) (tI2 c I L x y z) L (cSh (I 12) (tI2 c I L x y z 25) (I 65, L 66))) else (.inr 0, pic (nI c) (nI c) (oI c I) L)) else (.inr 3, sndH c fil I L)
theorem cA_tick {c : Nat} {fil : Int32} {I : Nat → Nat → Int32} {L : Nat → Nat → Int64} {Q : mx_O → List va_E → Prop} (hc : c ≤ 12) (hsr : ∀ w, w < 27 → I 12 w ≤ 12) (hv : ∀ w, w < 27 → vp_in (3 + I 12 w) 16) {x y z : Int32} (hQ : Q (aTick c fil I L x y z).1 (aTick c fil I L x y z).2) : mx_W mx_K mT mCl jA_tick (mRT 7 156) 0 [.ref 0, .int x, .int y, .int z, .retAddr 0] [] (pic (nI c) fil I L) Q := by
  unfold aTick at hQ
  cases e : sndB c I with
  | false =>
    rw [e] at hQ
    refine mx_aload_n dA_tick_0 rfl ?_
    refine mx_VT1 (R' := (mRT 6 136)) [] _ dA_tick_1 rfl mT_G jA_needSound_ok jA_needSound_v (mT_2 (i := 206) rfl rfl) ⟨Nat.le_of_ble_eq_true rfl, Nat.le_of_ble_eq_true rfl, Nat.le_of_ble_eq_true rfl, Nat.le_of_ble_eq_true rfl⟩ rfl rfl (Nat.le_of_ble_eq_true rfl) (Nat.le_of_ble_eq_true rfl) rfl rfl rfl (fun Qc qc => cA_needSoundT hc hsr e qc) ?_
    exact hQ
  | true =>
    rw [e, if_pos rfl] at hQ
    have hpl := oFin_pl e
    have hpl2 : ∀ a, a < c → 1 ≤ (oI c I 17 a).toNatClampNeg ∧ (oI c I 17 a).toNatClampNeg ≤ 12 ∧ oI c I 17 a = nI (oI c I 17 a).toNatClampNeg := by
      intro a ha
      obtain ⟨γ, q1, q2, q3⟩ := hpl a ha
      rw [q3, nI_clamp (by omega)]
      exact ⟨q1, by omega, rfl⟩
    refine mx_aload_n dA_tick_0 rfl ?_
    refine mx_V1 (R' := (mR 6 136)) [] _ dA_tick_1 rfl mT_G jA_needSound_ok jA_needSound_v lkA_125 ⟨rfl, rfl, Nat.le_of_ble_eq_true rfl, Nat.le_of_ble_eq_true rfl⟩ rfl rfl (Nat.le_of_ble_eq_true rfl) (Nat.le_of_ble_eq_true rfl) rfl rfl rfl (fun Qc qc => cA_needSound hc hsr e qc) ?_
    refine mx_iload_n dA_tick_4 rfl ?_
    refine mx_S1 (R' := (mR 0 0)) [_] _ dA_tick_5 rfl mT_G jA_isValue_ok jA_isValue_v lkA_104 ⟨rfl, rfl, Nat.le_of_ble_eq_true rfl, Nat.le_of_ble_eq_true rfl⟩ rfl rfl (Nat.le_of_ble_eq_true rfl) (Nat.le_of_ble_eq_true rfl) (fun Qc qc => cA_isValue qc) ?_
    refine mx_if_eq 25 dA_tick_8 rfl (fun h8 => ?_) (fun h8 => ?_)
    · refine mx_throw 0 dA_tick_25 dA_tick_28 dA_tick_29 dA_tick_32 mT_G (mT_2 (i := 25) rfl rfl) (mT_2 (i := 26) rfl rfl) (mT_1 (i := 13) rfl rfl) (by decide +kernel) (tw_of tw_67) (Nat.le_of_ble_eq_true rfl) (Nat.le_of_ble_eq_true rfl) (Nat.le_refl _) (Nat.le_refl _) ?_
      first | (rw [if_pos h8] at hQ; exact hQ) | (rw [if_neg h8, if_pos h15] at hQ; exact hQ) | (rw [if_neg h8, if_neg h15, if_neg (fun q => q h22)] at hQ; exact hQ)
    · refine mx_iload_n dA_tick_11 rfl ?_
      refine mx_S1 (R' := (mR 0 0)) [_] _ dA_tick_12 rfl mT_G jA_isValue_ok jA_isValue_v lkA_104 ⟨rfl, rfl, Nat.le_of_ble_eq_true rfl, Nat.le_of_ble_eq_true rfl⟩ rfl rfl (Nat.le_of_ble_eq_true rfl) (Nat.le_of_ble_eq_true rfl) (fun Qc qc => cA_isValue qc) ?_
      refine mx_if_eq 25 dA_tick_15 rfl (fun h15 => ?_) (fun h15 => ?_)
      · refine mx_throw 0 dA_tick_25 dA_tick_28 dA_tick_29 dA_tick_32 mT_G (mT_2 (i := 25) rfl rfl) (mT_2 (i := 26) rfl rfl) (mT_1 (i := 13) rfl rfl) (by decide +kernel) (tw_of tw_67) (Nat.le_of_ble_eq_true rfl) (Nat.le_of_ble_eq_true rfl) (Nat.le_refl _) (Nat.le_refl _) ?_
        first | (rw [if_pos h8] at hQ; exact hQ) | (rw [if_neg h8, if_pos h15] at hQ; exact hQ) | (rw [if_neg h8, if_neg h15, if_neg (fun q => q h22)] at hQ; exact hQ)
      · refine mx_iload_n dA_tick_18 rfl ?_
        refine mx_S1 (R' := (mR 0 0)) [_] _ dA_tick_19 rfl mT_G jA_isValue_ok jA_isValue_v lkA_104 ⟨rfl, rfl, Nat.le_of_ble_eq_true rfl, Nat.le_of_ble_eq_true rfl⟩ rfl rfl (Nat.le_of_ble_eq_true rfl) (Nat.le_of_ble_eq_true rfl) (fun Qc qc => cA_isValue qc) ?_
        refine mx_if_ne 33 dA_tick_22 rfl (fun h22 => ?_) (fun h22 => ?_)
        · rw [if_neg h8, if_neg h15, if_pos h22] at hQ
          refine mx_aload_n dA_tick_33 rfl ?_
          refine mx_get 0 7 dA_tick_34 fgA_57 rfl rfl ?_
          refine mx_iload_n dA_tick_37 rfl ?_
          refine mx_iload_n dA_tick_38 rfl ?_
          refine mx_iload_n dA_tick_39 rfl ?_
          refine mx_V1 (R' := (mR 0 0)) [_, _, _] _ dA_tick_40 rfl mT_G jC_setInputs_ok jC_setInputs_v lkA_160 ⟨rfl, rfl, Nat.le_of_ble_eq_true rfl, Nat.le_of_ble_eq_true rfl⟩ rfl rfl (Nat.le_of_ble_eq_true rfl) (Nat.le_of_ble_eq_true rfl) rfl rfl rfl (fun Qc qc => cC_setInputs (I := oI c I) qc) ?_
          refine mx_eqs (hp' := pic (nI c) (nI c) (tI1 c I x y z) L) rfl rfl rfl rfl ?_
          refine mx_aload_n dA_tick_43 rfl ?_
          refine mx_get 0 7 dA_tick_44 fgA_57 rfl rfl ?_
          refine mx_aload_n dA_tick_47 rfl ?_
          refine mx_get 0 0 dA_tick_48 fgA_12 rfl rfl ?_
          refine mx_aload_n dA_tick_51 rfl ?_
          refine mx_get 0 3 dA_tick_52 fgA_29 rfl rfl ?_
          refine mx_V1 (R' := (mR 2 44)) [_, _] _ dA_tick_55 rfl mT_G jC_settle_ok jC_settle_v lkA_163 ⟨rfl, rfl, Nat.le_of_ble_eq_true rfl, Nat.le_of_ble_eq_true rfl⟩ rfl rfl (Nat.le_of_ble_eq_true rfl) (Nat.le_of_ble_eq_true rfl) rfl rfl rfl (fun Qc qc => cC_settle (I := tI1 c I x y z) (pl := fun a => (oI c I 17 a).toNatClampNeg) hc hpl2 hv qc) ?_
          refine mx_eqs (hp' := pic (nI c) (nI c) (tI2 c I L x y z) L) rfl rfl rfl rfl ?_
          refine mx_aload_n dA_tick_58 rfl ?_
          refine mx_get 0 7 dA_tick_59 fgA_57 rfl rfl ?_
          refine mx_aload_n dA_tick_62 rfl ?_
          refine mx_get 0 0 dA_tick_63 fgA_12 rfl rfl ?_
          refine mx_V1 (R' := (mR 2 44)) [_] _ dA_tick_66 rfl mT_G jC_outputs_ok jC_outputs_v lkA_167 ⟨rfl, rfl, Nat.le_of_ble_eq_true rfl, Nat.le_of_ble_eq_true rfl⟩ rfl rfl (Nat.le_of_ble_eq_true rfl) (Nat.le_of_ble_eq_true rfl) rfl rfl rfl (fun Qc qc => cC_outputs (I := tI2 c I L x y z) hv qc) ?_
          refine mx_istore dA_tick_69 (Nat.le_of_ble_eq_true rfl) rfl ?_
          refine mx_aload_n dA_tick_71 rfl ?_
          refine mx_get 0 7 dA_tick_72 fgA_57 rfl rfl ?_
          refine mx_aload_n dA_tick_75 rfl ?_
          refine mx_get 0 0 dA_tick_76 fgA_12 rfl rfl ?_
          refine mx_V1 (R' := (mR 2 47)) [_] _ dA_tick_79 rfl mT_G jC_shift_ok jC_shift_v lkA_171 ⟨rfl, rfl, Nat.le_of_ble_eq_true rfl, Nat.le_of_ble_eq_true rfl⟩ rfl rfl (Nat.le_of_ble_eq_true rfl) (Nat.le_of_ble_eq_true rfl) rfl rfl rfl (fun Qc qc => cC_shift (I := tI2 c I L x y z) hv qc) ?_
          refine mx_iload dA_tick_82 rfl ?_
          refine mx_iret dA_tick_84 rfl rfl ?_
          exact hQ
        · refine mx_throw 0 dA_tick_25 dA_tick_28 dA_tick_29 dA_tick_32 mT_G (mT_2 (i := 25) rfl rfl) (mT_2 (i := 26) rfl rfl) (mT_1 (i := 13) rfl rfl) (by decide +kernel) (tw_of tw_67) (Nat.le_of_ble_eq_true rfl) (Nat.le_of_ble_eq_true rfl) (Nat.le_refl _) (Nat.le_refl _) ?_
          first | (rw [if_pos h8] at hQ; exact hQ) | (rw [if_neg h8, if_pos h15] at hQ; exact hQ) | (rw [if_neg h8, if_neg h15, if_neg (fun q => q h22)] at hQ; exact hQ)
end
section
/-! Decode rows, laid by program. -/
theorem dM_thrown_0 : decode prog_11_method_2_code 0 = .ok (.aload_n 0, 1) := by decide +kernel
theorem dM_thrown_1 : decode prog_11_method_2_code 1 = .ok (.getfield 49, 3) := by decide +kernel
theorem dM_thrown_4 : decode prog_11_method_2_code 4 = .ok (.ireturn, 1) := by decide +kernel
theorem dM_isGate_0 : decode prog_11_method_3_code 0 = .ok (.iload_n 1, 1) := by decide +kernel
theorem dM_isGate_1 : decode prog_11_method_3_code 1 = .ok (.iconst 1, 1) := by decide +kernel
theorem dM_isGate_2 : decode prog_11_method_3_code 2 = .ok (.if_icmp .lt (15), 3) := by decide +kernel
theorem dM_isGate_5 : decode prog_11_method_3_code 5 = .ok (.iload_n 1, 1) := by decide +kernel
theorem dM_isGate_6 : decode prog_11_method_3_code 6 = .ok (.aload_n 0, 1) := by decide +kernel
theorem dM_isGate_7 : decode prog_11_method_3_code 7 = .ok (.getfield 53, 3) := by decide +kernel
theorem dM_isGate_10 : decode prog_11_method_3_code 10 = .ok (.if_icmp .gt (7), 3) := by decide +kernel
theorem dM_isGate_13 : decode prog_11_method_3_code 13 = .ok (.iconst 1, 1) := by decide +kernel
theorem dM_isGate_14 : decode prog_11_method_3_code 14 = .ok (.goto (4), 3) := by decide +kernel
theorem dM_isGate_17 : decode prog_11_method_3_code 17 = .ok (.iconst 0, 1) := by decide +kernel
theorem dM_isGate_18 : decode prog_11_method_3_code 18 = .ok (.ireturn, 1) := by decide +kernel
theorem dM_isOuter_0 : decode prog_11_method_4_code 0 = .ok (.iload_n 0, 1) := by decide +kernel
theorem dM_isOuter_1 : decode prog_11_method_4_code 1 = .ok (.iconst (-1), 1) := by decide +kernel
theorem dM_isOuter_2 : decode prog_11_method_4_code 2 = .ok (.if_icmp .gt (13), 3) := by decide +kernel
theorem dM_isOuter_5 : decode prog_11_method_4_code 5 = .ok (.iload_n 0, 1) := by decide +kernel
theorem dM_isOuter_6 : decode prog_11_method_4_code 6 = .ok (.bipush (-3), 2) := by decide +kernel
theorem dM_isOuter_8 : decode prog_11_method_4_code 8 = .ok (.if_icmp .lt (7), 3) := by decide +kernel
theorem dM_isOuter_11 : decode prog_11_method_4_code 11 = .ok (.iconst 1, 1) := by decide +kernel
theorem dM_isOuter_12 : decode prog_11_method_4_code 12 = .ok (.goto (4), 3) := by decide +kernel
theorem dM_isOuter_15 : decode prog_11_method_4_code 15 = .ok (.iconst 0, 1) := by decide +kernel
theorem dM_isOuter_16 : decode prog_11_method_4_code 16 = .ok (.ireturn, 1) := by decide +kernel
theorem dM_pins_0 : decode prog_11_method_5_code 0 = .ok (.aload_n 0, 1) := by decide +kernel
theorem dM_pins_1 : decode prog_11_method_5_code 1 = .ok (.getfield 7, 3) := by decide +kernel
theorem dM_pins_4 : decode prog_11_method_5_code 4 = .ok (.iload_n 1, 1) := by decide +kernel
theorem dM_pins_5 : decode prog_11_method_5_code 5 = .ok (.iaload, 1) := by decide +kernel
theorem dM_pins_6 : decode prog_11_method_5_code 6 = .ok (.iconst 2, 1) := by decide +kernel
theorem dM_pins_7 : decode prog_11_method_5_code 7 = .ok (.if_icmp .ge (7), 3) := by decide +kernel
theorem dM_pins_10 : decode prog_11_method_5_code 10 = .ok (.iconst 1, 1) := by decide +kernel
theorem dM_pins_11 : decode prog_11_method_5_code 11 = .ok (.goto (4), 3) := by decide +kernel
theorem dM_pins_14 : decode prog_11_method_5_code 14 = .ok (.iconst 2, 1) := by decide +kernel
theorem dM_pins_15 : decode prog_11_method_5_code 15 = .ok (.ireturn, 1) := by decide +kernel
theorem dM_place_0 : decode prog_11_method_6_code 0 = .ok (.iload_n 1, 1) := by decide +kernel
theorem dM_place_1 : decode prog_11_method_6_code 1 = .ok (.invokestatic 56, 3) := by decide +kernel
theorem dM_place_4 : decode prog_11_method_6_code 4 = .ok (.ifCond .eq (16), 3) := by decide +kernel
theorem dM_place_7 : decode prog_11_method_6_code 7 = .ok (.iload_n 2, 1) := by decide +kernel
theorem dM_place_8 : decode prog_11_method_6_code 8 = .ok (.ifCond .ne (10), 3) := by decide +kernel
theorem dM_place_11 : decode prog_11_method_6_code 11 = .ok (.bipush (23), 2) := by decide +kernel
theorem dM_place_13 : decode prog_11_method_6_code 13 = .ok (.iload_n 1, 1) := by decide +kernel
theorem dM_place_14 : decode prog_11_method_6_code 14 = .ok (.isub, 1) := by decide +kernel
theorem dM_place_15 : decode prog_11_method_6_code 15 = .ok (.goto (4), 3) := by decide +kernel
theorem dM_place_18 : decode prog_11_method_6_code 18 = .ok (.iconst (-1), 1) := by decide +kernel
theorem dM_place_19 : decode prog_11_method_6_code 19 = .ok (.ireturn, 1) := by decide +kernel
theorem dM_place_20 : decode prog_11_method_6_code 20 = .ok (.aload_n 0, 1) := by decide +kernel
theorem dM_place_21 : decode prog_11_method_6_code 21 = .ok (.iload_n 1, 1) := by decide +kernel
theorem dM_place_22 : decode prog_11_method_6_code 22 = .ok (.invokevirtual 60, 3) := by decide +kernel
theorem dM_place_25 : decode prog_11_method_6_code 25 = .ok (.ifCond .eq (26), 3) := by decide +kernel
theorem dM_place_28 : decode prog_11_method_6_code 28 = .ok (.iload_n 2, 1) := by decide +kernel
theorem dM_place_29 : decode prog_11_method_6_code 29 = .ok (.ifCond .lt (22), 3) := by decide +kernel
theorem dM_place_32 : decode prog_11_method_6_code 32 = .ok (.iload_n 2, 1) := by decide +kernel
theorem dM_place_33 : decode prog_11_method_6_code 33 = .ok (.aload_n 0, 1) := by decide +kernel
theorem dM_place_34 : decode prog_11_method_6_code 34 = .ok (.iload_n 1, 1) := by decide +kernel
theorem dM_place_35 : decode prog_11_method_6_code 35 = .ok (.invokevirtual 63, 3) := by decide +kernel
theorem dM_place_38 : decode prog_11_method_6_code 38 = .ok (.if_icmp .ge (13), 3) := by decide +kernel
theorem dM_place_41 : decode prog_11_method_6_code 41 = .ok (.iconst 2, 1) := by decide +kernel
theorem dM_place_42 : decode prog_11_method_6_code 42 = .ok (.iload_n 1, 1) := by decide +kernel
theorem dM_place_43 : decode prog_11_method_6_code 43 = .ok (.imul, 1) := by decide +kernel
theorem dM_place_44 : decode prog_11_method_6_code 44 = .ok (.iconst 2, 1) := by decide +kernel
theorem dM_place_45 : decode prog_11_method_6_code 45 = .ok (.isub, 1) := by decide +kernel
theorem dM_place_46 : decode prog_11_method_6_code 46 = .ok (.iload_n 2, 1) := by decide +kernel
theorem dM_place_47 : decode prog_11_method_6_code 47 = .ok (.iadd, 1) := by decide +kernel
theorem dM_place_48 : decode prog_11_method_6_code 48 = .ok (.goto (4), 3) := by decide +kernel
theorem dM_place_51 : decode prog_11_method_6_code 51 = .ok (.iconst (-1), 1) := by decide +kernel
theorem dM_place_52 : decode prog_11_method_6_code 52 = .ok (.ireturn, 1) := by decide +kernel
theorem dM_isWire_0 : decode prog_11_method_7_code 0 = .ok (.iload_n 1, 1) := by decide +kernel
theorem dM_isWire_1 : decode prog_11_method_7_code 1 = .ok (.ifCond .lt (16), 3) := by decide +kernel
theorem dM_isWire_4 : decode prog_11_method_7_code 4 = .ok (.aload_n 0, 1) := by decide +kernel
theorem dM_isWire_5 : decode prog_11_method_7_code 5 = .ok (.getfield 16, 3) := by decide +kernel
theorem dM_isWire_8 : decode prog_11_method_7_code 8 = .ok (.iload_n 1, 1) := by decide +kernel
theorem dM_isWire_9 : decode prog_11_method_7_code 9 = .ok (.iaload, 1) := by decide +kernel
theorem dM_isWire_10 : decode prog_11_method_7_code 10 = .ok (.ifCond .eq (7), 3) := by decide +kernel
theorem dM_isWire_13 : decode prog_11_method_7_code 13 = .ok (.iconst 1, 1) := by decide +kernel
theorem dM_isWire_14 : decode prog_11_method_7_code 14 = .ok (.goto (4), 3) := by decide +kernel
theorem dM_isWire_17 : decode prog_11_method_7_code 17 = .ok (.iconst 0, 1) := by decide +kernel
theorem dM_isWire_18 : decode prog_11_method_7_code 18 = .ok (.ireturn, 1) := by decide +kernel
theorem dM_sinkOf_0 : decode prog_11_method_8_code 0 = .ok (.iload_n 0, 1) := by decide +kernel
theorem dM_sinkOf_1 : decode prog_11_method_8_code 1 = .ok (.bipush (24), 2) := by decide +kernel
theorem dM_sinkOf_3 : decode prog_11_method_8_code 3 = .ok (.if_icmp .ge (11), 3) := by decide +kernel
theorem dM_sinkOf_6 : decode prog_11_method_8_code 6 = .ok (.iload_n 0, 1) := by decide +kernel
theorem dM_sinkOf_7 : decode prog_11_method_8_code 7 = .ok (.iconst 2, 1) := by decide +kernel
theorem dM_sinkOf_8 : decode prog_11_method_8_code 8 = .ok (.idiv, 1) := by decide +kernel
theorem dM_sinkOf_9 : decode prog_11_method_8_code 9 = .ok (.iconst 1, 1) := by decide +kernel
theorem dM_sinkOf_10 : decode prog_11_method_8_code 10 = .ok (.iadd, 1) := by decide +kernel
theorem dM_sinkOf_11 : decode prog_11_method_8_code 11 = .ok (.goto (4), 3) := by decide +kernel
theorem dM_sinkOf_14 : decode prog_11_method_8_code 14 = .ok (.iconst 0, 1) := by decide +kernel
theorem dM_sinkOf_15 : decode prog_11_method_8_code 15 = .ok (.ireturn, 1) := by decide +kernel
theorem dM_begin_0 : decode prog_11_method_9_code 0 = .ok (.iconst 0, 1) := by decide +kernel
theorem dM_begin_1 : decode prog_11_method_9_code 1 = .ok (.istore_n 1, 1) := by decide +kernel
theorem dM_begin_2 : decode prog_11_method_9_code 2 = .ok (.iload_n 1, 1) := by decide +kernel
theorem dM_begin_3 : decode prog_11_method_9_code 3 = .ok (.sipush (1080), 3) := by decide +kernel
theorem dM_begin_6 : decode prog_11_method_9_code 6 = .ok (.if_icmp .ge (21), 3) := by decide +kernel
theorem dM_begin_9 : decode prog_11_method_9_code 9 = .ok (.aload_n 0, 1) := by decide +kernel
theorem dM_begin_10 : decode prog_11_method_9_code 10 = .ok (.getfield 25, 3) := by decide +kernel
theorem dM_begin_13 : decode prog_11_method_9_code 13 = .ok (.iload_n 1, 1) := by decide +kernel
theorem dM_begin_14 : decode prog_11_method_9_code 14 = .ok (.aload_n 0, 1) := by decide +kernel
theorem dM_begin_15 : decode prog_11_method_9_code 15 = .ok (.getfield 22, 3) := by decide +kernel
theorem dM_begin_18 : decode prog_11_method_9_code 18 = .ok (.iload_n 1, 1) := by decide +kernel
theorem dM_begin_19 : decode prog_11_method_9_code 19 = .ok (.iaload, 1) := by decide +kernel
theorem dM_begin_20 : decode prog_11_method_9_code 20 = .ok (.iastore, 1) := by decide +kernel
theorem dM_begin_21 : decode prog_11_method_9_code 21 = .ok (.iinc 1 (1), 3) := by decide +kernel
theorem dM_begin_24 : decode prog_11_method_9_code 24 = .ok (.goto (-22), 3) := by decide +kernel
theorem dM_begin_27 : decode prog_11_method_9_code 27 = .ok (.return_, 1) := by decide +kernel
theorem dM_gate_0 : decode prog_11_method_10_code 0 = .ok (.aload_n 0, 1) := by decide +kernel
theorem dM_gate_1 : decode prog_11_method_10_code 1 = .ok (.iload_n 1, 1) := by decide +kernel
theorem dM_gate_2 : decode prog_11_method_10_code 2 = .ok (.ifCond .lt (18), 3) := by decide +kernel
theorem dM_gate_5 : decode prog_11_method_10_code 5 = .ok (.iload_n 1, 1) := by decide +kernel
theorem dM_gate_6 : decode prog_11_method_10_code 6 = .ok (.iconst 4, 1) := by decide +kernel
theorem dM_gate_7 : decode prog_11_method_10_code 7 = .ok (.if_icmp .gt (13), 3) := by decide +kernel
theorem dM_gate_10 : decode prog_11_method_10_code 10 = .ok (.iload_n 2, 1) := by decide +kernel
theorem dM_gate_11 : decode prog_11_method_10_code 11 = .ok (.ifCond .lt (9), 3) := by decide +kernel
theorem dM_gate_14 : decode prog_11_method_10_code 14 = .ok (.iload_n 2, 1) := by decide +kernel
theorem dM_gate_15 : decode prog_11_method_10_code 15 = .ok (.bipush (50), 2) := by decide +kernel
theorem dM_gate_17 : decode prog_11_method_10_code 17 = .ok (.if_icmp .le (7), 3) := by decide +kernel
theorem dM_gate_20 : decode prog_11_method_10_code 20 = .ok (.iconst 1, 1) := by decide +kernel
theorem dM_gate_21 : decode prog_11_method_10_code 21 = .ok (.goto (17), 3) := by decide +kernel
theorem dM_gate_24 : decode prog_11_method_10_code 24 = .ok (.aload_n 0, 1) := by decide +kernel
theorem dM_gate_25 : decode prog_11_method_10_code 25 = .ok (.getfield 53, 3) := by decide +kernel
theorem dM_gate_28 : decode prog_11_method_10_code 28 = .ok (.bipush (12), 2) := by decide +kernel
theorem dM_gate_30 : decode prog_11_method_10_code 30 = .ok (.if_icmp .ne (7), 3) := by decide +kernel
theorem dM_gate_33 : decode prog_11_method_10_code 33 = .ok (.iconst 2, 1) := by decide +kernel
theorem dM_gate_34 : decode prog_11_method_10_code 34 = .ok (.goto (4), 3) := by decide +kernel
theorem dM_gate_37 : decode prog_11_method_10_code 37 = .ok (.iconst 0, 1) := by decide +kernel
theorem dM_gate_38 : decode prog_11_method_10_code 38 = .ok (.putfield 49, 3) := by decide +kernel
theorem dM_gate_41 : decode prog_11_method_10_code 41 = .ok (.aload_n 0, 1) := by decide +kernel
theorem dM_gate_42 : decode prog_11_method_10_code 42 = .ok (.getfield 49, 3) := by decide +kernel
theorem dM_gate_45 : decode prog_11_method_10_code 45 = .ok (.ifCond .eq (5), 3) := by decide +kernel
theorem dM_gate_48 : decode prog_11_method_10_code 48 = .ok (.iconst 0, 1) := by decide +kernel
theorem dM_gate_49 : decode prog_11_method_10_code 49 = .ok (.ireturn, 1) := by decide +kernel
theorem dM_gate_50 : decode prog_11_method_10_code 50 = .ok (.aload_n 0, 1) := by decide +kernel
theorem dM_gate_51 : decode prog_11_method_10_code 51 = .ok (.dup, 1) := by decide +kernel
theorem dM_gate_52 : decode prog_11_method_10_code 52 = .ok (.getfield 53, 3) := by decide +kernel
theorem dM_gate_55 : decode prog_11_method_10_code 55 = .ok (.iconst 1, 1) := by decide +kernel
theorem dM_gate_56 : decode prog_11_method_10_code 56 = .ok (.iadd, 1) := by decide +kernel
theorem dM_gate_57 : decode prog_11_method_10_code 57 = .ok (.putfield 53, 3) := by decide +kernel
theorem dM_gate_60 : decode prog_11_method_10_code 60 = .ok (.aload_n 0, 1) := by decide +kernel
theorem dM_gate_61 : decode prog_11_method_10_code 61 = .ok (.getfield 7, 3) := by decide +kernel
theorem dM_gate_64 : decode prog_11_method_10_code 64 = .ok (.aload_n 0, 1) := by decide +kernel
theorem dM_gate_65 : decode prog_11_method_10_code 65 = .ok (.getfield 53, 3) := by decide +kernel
theorem dM_gate_68 : decode prog_11_method_10_code 68 = .ok (.iload_n 1, 1) := by decide +kernel
theorem dM_gate_69 : decode prog_11_method_10_code 69 = .ok (.iastore, 1) := by decide +kernel
theorem dM_gate_70 : decode prog_11_method_10_code 70 = .ok (.aload_n 0, 1) := by decide +kernel
theorem dM_gate_71 : decode prog_11_method_10_code 71 = .ok (.getfield 13, 3) := by decide +kernel
theorem dM_gate_74 : decode prog_11_method_10_code 74 = .ok (.aload_n 0, 1) := by decide +kernel
theorem dM_gate_75 : decode prog_11_method_10_code 75 = .ok (.getfield 53, 3) := by decide +kernel
theorem dM_gate_78 : decode prog_11_method_10_code 78 = .ok (.iload_n 2, 1) := by decide +kernel
theorem dM_gate_79 : decode prog_11_method_10_code 79 = .ok (.iastore, 1) := by decide +kernel
theorem dM_gate_80 : decode prog_11_method_10_code 80 = .ok (.aload_n 0, 1) := by decide +kernel
theorem dM_gate_81 : decode prog_11_method_10_code 81 = .ok (.invokevirtual 67, 3) := by decide +kernel
theorem dM_gate_84 : decode prog_11_method_10_code 84 = .ok (.aload_n 0, 1) := by decide +kernel
theorem dM_gate_85 : decode prog_11_method_10_code 85 = .ok (.getfield 53, 3) := by decide +kernel
theorem dM_gate_88 : decode prog_11_method_10_code 88 = .ok (.ireturn, 1) := by decide +kernel
theorem dM_wire_0 : decode prog_11_method_11_code 0 = .ok (.aload_n 0, 1) := by decide +kernel
theorem dM_wire_1 : decode prog_11_method_11_code 1 = .ok (.iload_n 1, 1) := by decide +kernel
theorem dM_wire_2 : decode prog_11_method_11_code 2 = .ok (.invokevirtual 60, 3) := by decide +kernel
theorem dM_wire_5 : decode prog_11_method_11_code 5 = .ok (.ifCond .ne (10), 3) := by decide +kernel
theorem dM_wire_8 : decode prog_11_method_11_code 8 = .ok (.iload_n 1, 1) := by decide +kernel
theorem dM_wire_9 : decode prog_11_method_11_code 9 = .ok (.invokestatic 56, 3) := by decide +kernel
theorem dM_wire_12 : decode prog_11_method_11_code 12 = .ok (.ifCond .eq (22), 3) := by decide +kernel
theorem dM_wire_15 : decode prog_11_method_11_code 15 = .ok (.aload_n 0, 1) := by decide +kernel
theorem dM_wire_16 : decode prog_11_method_11_code 16 = .ok (.iload_n 2, 1) := by decide +kernel
theorem dM_wire_17 : decode prog_11_method_11_code 17 = .ok (.invokevirtual 60, 3) := by decide +kernel
theorem dM_wire_20 : decode prog_11_method_11_code 20 = .ok (.ifCond .ne (10), 3) := by decide +kernel
theorem dM_wire_23 : decode prog_11_method_11_code 23 = .ok (.iload_n 2, 1) := by decide +kernel
theorem dM_wire_24 : decode prog_11_method_11_code 24 = .ok (.invokestatic 56, 3) := by decide +kernel
theorem dM_wire_27 : decode prog_11_method_11_code 27 = .ok (.ifCond .eq (7), 3) := by decide +kernel
theorem dM_wire_30 : decode prog_11_method_11_code 30 = .ok (.iconst 1, 1) := by decide +kernel
theorem dM_wire_31 : decode prog_11_method_11_code 31 = .ok (.goto (4), 3) := by decide +kernel
theorem dM_wire_34 : decode prog_11_method_11_code 34 = .ok (.iconst 0, 1) := by decide +kernel
theorem dM_wire_35 : decode prog_11_method_11_code 35 = .ok (.istore 5, 2) := by decide +kernel
theorem dM_wire_37 : decode prog_11_method_11_code 37 = .ok (.aload_n 0, 1) := by decide +kernel
theorem dM_wire_38 : decode prog_11_method_11_code 38 = .ok (.iload_n 2, 1) := by decide +kernel
theorem dM_wire_39 : decode prog_11_method_11_code 39 = .ok (.iload_n 3, 1) := by decide +kernel
theorem dM_wire_40 : decode prog_11_method_11_code 40 = .ok (.invokevirtual 70, 3) := by decide +kernel
theorem dM_wire_43 : decode prog_11_method_11_code 43 = .ok (.istore 6, 2) := by decide +kernel
theorem dM_wire_45 : decode prog_11_method_11_code 45 = .ok (.aload_n 0, 1) := by decide +kernel
theorem dM_wire_46 : decode prog_11_method_11_code 46 = .ok (.iload 5, 2) := by decide +kernel
theorem dM_wire_48 : decode prog_11_method_11_code 48 = .ok (.ifCond .ne (7), 3) := by decide +kernel
theorem dM_wire_51 : decode prog_11_method_11_code 51 = .ok (.iconst 1, 1) := by decide +kernel
theorem dM_wire_52 : decode prog_11_method_11_code 52 = .ok (.goto (24), 3) := by decide +kernel
theorem dM_wire_55 : decode prog_11_method_11_code 55 = .ok (.iload 6, 2) := by decide +kernel
theorem dM_wire_57 : decode prog_11_method_11_code 57 = .ok (.ifCond .lt (14), 3) := by decide +kernel
theorem dM_wire_60 : decode prog_11_method_11_code 60 = .ok (.iload 4, 2) := by decide +kernel
theorem dM_wire_62 : decode prog_11_method_11_code 62 = .ok (.ifCond .lt (9), 3) := by decide +kernel
theorem dM_wire_65 : decode prog_11_method_11_code 65 = .ok (.iload 4, 2) := by decide +kernel
theorem dM_wire_67 : decode prog_11_method_11_code 67 = .ok (.iconst 4, 1) := by decide +kernel
theorem dM_wire_68 : decode prog_11_method_11_code 68 = .ok (.if_icmp .le (7), 3) := by decide +kernel
theorem dM_wire_71 : decode prog_11_method_11_code 71 = .ok (.iconst 2, 1) := by decide +kernel
theorem dM_wire_72 : decode prog_11_method_11_code 72 = .ok (.goto (4), 3) := by decide +kernel
theorem dM_wire_75 : decode prog_11_method_11_code 75 = .ok (.iconst 0, 1) := by decide +kernel
theorem dM_wire_76 : decode prog_11_method_11_code 76 = .ok (.putfield 49, 3) := by decide +kernel
theorem dM_wire_79 : decode prog_11_method_11_code 79 = .ok (.aload_n 0, 1) := by decide +kernel
theorem dM_wire_80 : decode prog_11_method_11_code 80 = .ok (.getfield 49, 3) := by decide +kernel
theorem dM_wire_83 : decode prog_11_method_11_code 83 = .ok (.ifCond .eq (4), 3) := by decide +kernel
theorem dM_wire_86 : decode prog_11_method_11_code 86 = .ok (.return_, 1) := by decide +kernel
theorem dM_wire_87 : decode prog_11_method_11_code 87 = .ok (.aload_n 0, 1) := by decide +kernel
theorem dM_wire_88 : decode prog_11_method_11_code 88 = .ok (.getfield 16, 3) := by decide +kernel
theorem dM_wire_91 : decode prog_11_method_11_code 91 = .ok (.iload 6, 2) := by decide +kernel
theorem dM_wire_93 : decode prog_11_method_11_code 93 = .ok (.iload_n 1, 1) := by decide +kernel
theorem dM_wire_94 : decode prog_11_method_11_code 94 = .ok (.iastore, 1) := by decide +kernel
theorem dM_wire_95 : decode prog_11_method_11_code 95 = .ok (.aload_n 0, 1) := by decide +kernel
theorem dM_wire_96 : decode prog_11_method_11_code 96 = .ok (.getfield 19, 3) := by decide +kernel
theorem dM_wire_99 : decode prog_11_method_11_code 99 = .ok (.iload 6, 2) := by decide +kernel
theorem dM_wire_101 : decode prog_11_method_11_code 101 = .ok (.iload 4, 2) := by decide +kernel
theorem dM_wire_103 : decode prog_11_method_11_code 103 = .ok (.iastore, 1) := by decide +kernel
theorem dM_wire_104 : decode prog_11_method_11_code 104 = .ok (.iconst 0, 1) := by decide +kernel
theorem dM_wire_105 : decode prog_11_method_11_code 105 = .ok (.istore 7, 2) := by decide +kernel
theorem dM_wire_107 : decode prog_11_method_11_code 107 = .ok (.iload 7, 2) := by decide +kernel
theorem dM_wire_109 : decode prog_11_method_11_code 109 = .ok (.bipush (40), 2) := by decide +kernel
theorem dM_wire_111 : decode prog_11_method_11_code 111 = .ok (.if_icmp .ge (23), 3) := by decide +kernel
theorem dM_wire_114 : decode prog_11_method_11_code 114 = .ok (.aload_n 0, 1) := by decide +kernel
theorem dM_wire_115 : decode prog_11_method_11_code 115 = .ok (.getfield 22, 3) := by decide +kernel
theorem dM_wire_118 : decode prog_11_method_11_code 118 = .ok (.bipush (40), 2) := by decide +kernel
theorem dM_wire_120 : decode prog_11_method_11_code 120 = .ok (.iload 6, 2) := by decide +kernel
theorem dM_wire_122 : decode prog_11_method_11_code 122 = .ok (.imul, 1) := by decide +kernel
theorem dM_wire_123 : decode prog_11_method_11_code 123 = .ok (.iload 7, 2) := by decide +kernel
theorem dM_wire_125 : decode prog_11_method_11_code 125 = .ok (.iadd, 1) := by decide +kernel
theorem dM_wire_126 : decode prog_11_method_11_code 126 = .ok (.iconst 2, 1) := by decide +kernel
theorem dM_wire_127 : decode prog_11_method_11_code 127 = .ok (.iastore, 1) := by decide +kernel
theorem dM_wire_128 : decode prog_11_method_11_code 128 = .ok (.iinc 7 (1), 3) := by decide +kernel
theorem dM_wire_131 : decode prog_11_method_11_code 131 = .ok (.goto (-24), 3) := by decide +kernel
theorem dM_wire_134 : decode prog_11_method_11_code 134 = .ok (.aload_n 0, 1) := by decide +kernel
theorem dM_wire_135 : decode prog_11_method_11_code 135 = .ok (.invokevirtual 67, 3) := by decide +kernel
theorem dM_wire_138 : decode prog_11_method_11_code 138 = .ok (.return_, 1) := by decide +kernel
theorem dM_isRegister_0 : decode prog_11_method_12_code 0 = .ok (.aload_n 0, 1) := by decide +kernel
theorem dM_isRegister_1 : decode prog_11_method_12_code 1 = .ok (.iload_n 1, 1) := by decide +kernel
theorem dM_isRegister_2 : decode prog_11_method_12_code 2 = .ok (.invokevirtual 74, 3) := by decide +kernel
theorem dM_isRegister_5 : decode prog_11_method_12_code 5 = .ok (.ifCond .eq (21), 3) := by decide +kernel
theorem dM_isRegister_8 : decode prog_11_method_12_code 8 = .ok (.iload_n 2, 1) := by decide +kernel
theorem dM_isRegister_9 : decode prog_11_method_12_code 9 = .ok (.ifCond .lt (17), 3) := by decide +kernel
theorem dM_isRegister_12 : decode prog_11_method_12_code 12 = .ok (.iload_n 2, 1) := by decide +kernel
theorem dM_isRegister_13 : decode prog_11_method_12_code 13 = .ok (.aload_n 0, 1) := by decide +kernel
theorem dM_isRegister_14 : decode prog_11_method_12_code 14 = .ok (.getfield 19, 3) := by decide +kernel
theorem dM_isRegister_17 : decode prog_11_method_12_code 17 = .ok (.iload_n 1, 1) := by decide +kernel
theorem dM_isRegister_18 : decode prog_11_method_12_code 18 = .ok (.iaload, 1) := by decide +kernel
theorem dM_isRegister_19 : decode prog_11_method_12_code 19 = .ok (.if_icmp .ge (7), 3) := by decide +kernel
theorem dM_isRegister_22 : decode prog_11_method_12_code 22 = .ok (.iconst 1, 1) := by decide +kernel
theorem dM_isRegister_23 : decode prog_11_method_12_code 23 = .ok (.goto (4), 3) := by decide +kernel
theorem dM_isRegister_26 : decode prog_11_method_12_code 26 = .ok (.iconst 0, 1) := by decide +kernel
theorem dM_isRegister_27 : decode prog_11_method_12_code 27 = .ok (.ireturn, 1) := by decide +kernel
theorem dM_hold_0 : decode prog_11_method_13_code 0 = .ok (.aload_n 0, 1) := by decide +kernel
theorem dM_hold_1 : decode prog_11_method_13_code 1 = .ok (.iload_n 1, 1) := by decide +kernel
theorem dM_hold_2 : decode prog_11_method_13_code 2 = .ok (.iload_n 2, 1) := by decide +kernel
theorem dM_hold_3 : decode prog_11_method_13_code 3 = .ok (.invokevirtual 70, 3) := by decide +kernel
theorem dM_hold_6 : decode prog_11_method_13_code 6 = .ok (.istore 5, 2) := by decide +kernel
theorem dM_hold_8 : decode prog_11_method_13_code 8 = .ok (.aload_n 0, 1) := by decide +kernel
theorem dM_hold_9 : decode prog_11_method_13_code 9 = .ok (.aload_n 0, 1) := by decide +kernel
theorem dM_hold_10 : decode prog_11_method_13_code 10 = .ok (.iload 5, 2) := by decide +kernel
theorem dM_hold_12 : decode prog_11_method_13_code 12 = .ok (.iload_n 3, 1) := by decide +kernel
theorem dM_hold_13 : decode prog_11_method_13_code 13 = .ok (.invokevirtual 77, 3) := by decide +kernel
theorem dM_hold_16 : decode prog_11_method_13_code 16 = .ok (.ifCond .ne (7), 3) := by decide +kernel
theorem dM_hold_19 : decode prog_11_method_13_code 19 = .ok (.iconst 1, 1) := by decide +kernel
theorem dM_hold_20 : decode prog_11_method_13_code 20 = .ok (.goto (19), 3) := by decide +kernel
theorem dM_hold_23 : decode prog_11_method_13_code 23 = .ok (.iload 4, 2) := by decide +kernel
theorem dM_hold_25 : decode prog_11_method_13_code 25 = .ok (.ifCond .lt (9), 3) := by decide +kernel
theorem dM_hold_28 : decode prog_11_method_13_code 28 = .ok (.iload 4, 2) := by decide +kernel
theorem dM_hold_30 : decode prog_11_method_13_code 30 = .ok (.iconst 2, 1) := by decide +kernel
theorem dM_hold_31 : decode prog_11_method_13_code 31 = .ok (.if_icmp .le (7), 3) := by decide +kernel
theorem dM_hold_34 : decode prog_11_method_13_code 34 = .ok (.iconst 2, 1) := by decide +kernel
theorem dM_hold_35 : decode prog_11_method_13_code 35 = .ok (.goto (4), 3) := by decide +kernel
theorem dM_hold_38 : decode prog_11_method_13_code 38 = .ok (.iconst 0, 1) := by decide +kernel
theorem dM_hold_39 : decode prog_11_method_13_code 39 = .ok (.putfield 49, 3) := by decide +kernel
theorem dM_hold_42 : decode prog_11_method_13_code 42 = .ok (.aload_n 0, 1) := by decide +kernel
theorem dM_hold_43 : decode prog_11_method_13_code 43 = .ok (.getfield 49, 3) := by decide +kernel
theorem dM_hold_46 : decode prog_11_method_13_code 46 = .ok (.ifCond .ne (21), 3) := by decide +kernel
theorem dM_hold_49 : decode prog_11_method_13_code 49 = .ok (.aload_n 0, 1) := by decide +kernel
theorem dM_hold_50 : decode prog_11_method_13_code 50 = .ok (.getfield 22, 3) := by decide +kernel
theorem dM_hold_53 : decode prog_11_method_13_code 53 = .ok (.bipush (40), 2) := by decide +kernel
theorem dM_hold_55 : decode prog_11_method_13_code 55 = .ok (.iload 5, 2) := by decide +kernel
theorem dM_hold_57 : decode prog_11_method_13_code 57 = .ok (.imul, 1) := by decide +kernel
theorem dM_hold_58 : decode prog_11_method_13_code 58 = .ok (.iload_n 3, 1) := by decide +kernel
theorem dM_hold_59 : decode prog_11_method_13_code 59 = .ok (.iadd, 1) := by decide +kernel
theorem dM_hold_60 : decode prog_11_method_13_code 60 = .ok (.iload 4, 2) := by decide +kernel
theorem dM_hold_62 : decode prog_11_method_13_code 62 = .ok (.iastore, 1) := by decide +kernel
theorem dM_hold_63 : decode prog_11_method_13_code 63 = .ok (.aload_n 0, 1) := by decide +kernel
theorem dM_hold_64 : decode prog_11_method_13_code 64 = .ok (.invokevirtual 67, 3) := by decide +kernel
theorem dM_hold_67 : decode prog_11_method_13_code 67 = .ok (.return_, 1) := by decide +kernel
theorem dM_held_0 : decode prog_11_method_14_code 0 = .ok (.aload_n 0, 1) := by decide +kernel
theorem dM_held_1 : decode prog_11_method_14_code 1 = .ok (.iload_n 1, 1) := by decide +kernel
theorem dM_held_2 : decode prog_11_method_14_code 2 = .ok (.iload_n 2, 1) := by decide +kernel
theorem dM_held_3 : decode prog_11_method_14_code 3 = .ok (.invokevirtual 70, 3) := by decide +kernel
theorem dM_held_6 : decode prog_11_method_14_code 6 = .ok (.istore 4, 2) := by decide +kernel
theorem dM_held_8 : decode prog_11_method_14_code 8 = .ok (.aload_n 0, 1) := by decide +kernel
theorem dM_held_9 : decode prog_11_method_14_code 9 = .ok (.aload_n 0, 1) := by decide +kernel
theorem dM_held_10 : decode prog_11_method_14_code 10 = .ok (.iload 4, 2) := by decide +kernel
theorem dM_held_12 : decode prog_11_method_14_code 12 = .ok (.iload_n 3, 1) := by decide +kernel
theorem dM_held_13 : decode prog_11_method_14_code 13 = .ok (.invokevirtual 77, 3) := by decide +kernel
theorem dM_held_16 : decode prog_11_method_14_code 16 = .ok (.ifCond .eq (7), 3) := by decide +kernel
theorem dM_held_19 : decode prog_11_method_14_code 19 = .ok (.iconst 0, 1) := by decide +kernel
theorem dM_held_20 : decode prog_11_method_14_code 20 = .ok (.goto (4), 3) := by decide +kernel
theorem dM_held_23 : decode prog_11_method_14_code 23 = .ok (.iconst 1, 1) := by decide +kernel
theorem dM_held_24 : decode prog_11_method_14_code 24 = .ok (.putfield 49, 3) := by decide +kernel
theorem dM_held_27 : decode prog_11_method_14_code 27 = .ok (.aload_n 0, 1) := by decide +kernel
theorem dM_held_28 : decode prog_11_method_14_code 28 = .ok (.getfield 49, 3) := by decide +kernel
theorem dM_held_31 : decode prog_11_method_14_code 31 = .ok (.ifCond .ne (18), 3) := by decide +kernel
theorem dM_held_34 : decode prog_11_method_14_code 34 = .ok (.aload_n 0, 1) := by decide +kernel
theorem dM_held_35 : decode prog_11_method_14_code 35 = .ok (.getfield 22, 3) := by decide +kernel
theorem dM_held_38 : decode prog_11_method_14_code 38 = .ok (.bipush (40), 2) := by decide +kernel
theorem dM_held_40 : decode prog_11_method_14_code 40 = .ok (.iload 4, 2) := by decide +kernel
theorem dM_held_42 : decode prog_11_method_14_code 42 = .ok (.imul, 1) := by decide +kernel
theorem dM_held_43 : decode prog_11_method_14_code 43 = .ok (.iload_n 3, 1) := by decide +kernel
theorem dM_held_44 : decode prog_11_method_14_code 44 = .ok (.iadd, 1) := by decide +kernel
theorem dM_held_45 : decode prog_11_method_14_code 45 = .ok (.iaload, 1) := by decide +kernel
theorem dM_held_46 : decode prog_11_method_14_code 46 = .ok (.goto (4), 3) := by decide +kernel
theorem dM_held_49 : decode prog_11_method_14_code 49 = .ok (.iconst 0, 1) := by decide +kernel
theorem dM_held_50 : decode prog_11_method_14_code 50 = .ok (.ireturn, 1) := by decide +kernel
theorem dM_registers_0 : decode prog_11_method_15_code 0 = .ok (.aload_n 0, 1) := by decide +kernel
theorem dM_registers_1 : decode prog_11_method_15_code 1 = .ok (.iload_n 1, 1) := by decide +kernel
theorem dM_registers_2 : decode prog_11_method_15_code 2 = .ok (.iload_n 2, 1) := by decide +kernel
theorem dM_registers_3 : decode prog_11_method_15_code 3 = .ok (.invokevirtual 70, 3) := by decide +kernel
theorem dM_registers_6 : decode prog_11_method_15_code 6 = .ok (.istore_n 3, 1) := by decide +kernel
theorem dM_registers_7 : decode prog_11_method_15_code 7 = .ok (.aload_n 0, 1) := by decide +kernel
theorem dM_registers_8 : decode prog_11_method_15_code 8 = .ok (.aload_n 0, 1) := by decide +kernel
theorem dM_registers_9 : decode prog_11_method_15_code 9 = .ok (.iload_n 3, 1) := by decide +kernel
theorem dM_registers_10 : decode prog_11_method_15_code 10 = .ok (.invokevirtual 74, 3) := by decide +kernel
theorem dM_registers_13 : decode prog_11_method_15_code 13 = .ok (.ifCond .eq (7), 3) := by decide +kernel
theorem dM_registers_16 : decode prog_11_method_15_code 16 = .ok (.iconst 0, 1) := by decide +kernel
theorem dM_registers_17 : decode prog_11_method_15_code 17 = .ok (.goto (4), 3) := by decide +kernel
theorem dM_registers_20 : decode prog_11_method_15_code 20 = .ok (.iconst 1, 1) := by decide +kernel
theorem dM_registers_21 : decode prog_11_method_15_code 21 = .ok (.putfield 49, 3) := by decide +kernel
theorem dM_registers_24 : decode prog_11_method_15_code 24 = .ok (.aload_n 0, 1) := by decide +kernel
theorem dM_registers_25 : decode prog_11_method_15_code 25 = .ok (.getfield 49, 3) := by decide +kernel
theorem dM_registers_28 : decode prog_11_method_15_code 28 = .ok (.ifCond .ne (12), 3) := by decide +kernel
theorem dM_registers_31 : decode prog_11_method_15_code 31 = .ok (.aload_n 0, 1) := by decide +kernel
theorem dM_registers_32 : decode prog_11_method_15_code 32 = .ok (.getfield 19, 3) := by decide +kernel
theorem dM_registers_35 : decode prog_11_method_15_code 35 = .ok (.iload_n 3, 1) := by decide +kernel
theorem dM_registers_36 : decode prog_11_method_15_code 36 = .ok (.iaload, 1) := by decide +kernel
theorem dM_registers_37 : decode prog_11_method_15_code 37 = .ok (.goto (4), 3) := by decide +kernel
theorem dM_registers_40 : decode prog_11_method_15_code 40 = .ok (.iconst 0, 1) := by decide +kernel
theorem dM_registers_41 : decode prog_11_method_15_code 41 = .ok (.ireturn, 1) := by decide +kernel
theorem dM_gates_0 : decode prog_11_method_16_code 0 = .ok (.aload_n 0, 1) := by decide +kernel
theorem dM_gates_1 : decode prog_11_method_16_code 1 = .ok (.iconst 0, 1) := by decide +kernel
theorem dM_gates_2 : decode prog_11_method_16_code 2 = .ok (.putfield 49, 3) := by decide +kernel
theorem dM_gates_5 : decode prog_11_method_16_code 5 = .ok (.aload_n 0, 1) := by decide +kernel
theorem dM_gates_6 : decode prog_11_method_16_code 6 = .ok (.getfield 53, 3) := by decide +kernel
theorem dM_gates_9 : decode prog_11_method_16_code 9 = .ok (.ireturn, 1) := by decide +kernel
theorem dM_measure_0 : decode prog_11_method_17_code 0 = .ok (.iconst 1, 1) := by decide +kernel
theorem dM_measure_1 : decode prog_11_method_17_code 1 = .ok (.istore_n 1, 1) := by decide +kernel
theorem dM_measure_2 : decode prog_11_method_17_code 2 = .ok (.iload_n 1, 1) := by decide +kernel
theorem dM_measure_3 : decode prog_11_method_17_code 3 = .ok (.aload_n 0, 1) := by decide +kernel
theorem dM_measure_4 : decode prog_11_method_17_code 4 = .ok (.getfield 53, 3) := by decide +kernel
theorem dM_measure_7 : decode prog_11_method_17_code 7 = .ok (.if_icmp .gt (47), 3) := by decide +kernel
theorem dM_measure_10 : decode prog_11_method_17_code 10 = .ok (.iconst 1, 1) := by decide +kernel
theorem dM_measure_11 : decode prog_11_method_17_code 11 = .ok (.istore_n 2, 1) := by decide +kernel
theorem dM_measure_12 : decode prog_11_method_17_code 12 = .ok (.iload_n 2, 1) := by decide +kernel
theorem dM_measure_13 : decode prog_11_method_17_code 13 = .ok (.aload_n 0, 1) := by decide +kernel
theorem dM_measure_14 : decode prog_11_method_17_code 14 = .ok (.getfield 53, 3) := by decide +kernel
theorem dM_measure_17 : decode prog_11_method_17_code 17 = .ok (.if_icmp .gt (31), 3) := by decide +kernel
theorem dM_measure_20 : decode prog_11_method_17_code 20 = .ok (.aload_n 0, 1) := by decide +kernel
theorem dM_measure_21 : decode prog_11_method_17_code 21 = .ok (.getfield 43, 3) := by decide +kernel
theorem dM_measure_24 : decode prog_11_method_17_code 24 = .ok (.bipush (13), 2) := by decide +kernel
theorem dM_measure_26 : decode prog_11_method_17_code 26 = .ok (.iload_n 1, 1) := by decide +kernel
theorem dM_measure_27 : decode prog_11_method_17_code 27 = .ok (.imul, 1) := by decide +kernel
theorem dM_measure_28 : decode prog_11_method_17_code 28 = .ok (.iload_n 2, 1) := by decide +kernel
theorem dM_measure_29 : decode prog_11_method_17_code 29 = .ok (.iadd, 1) := by decide +kernel
theorem dM_measure_30 : decode prog_11_method_17_code 30 = .ok (.iload_n 1, 1) := by decide +kernel
theorem dM_measure_31 : decode prog_11_method_17_code 31 = .ok (.iload_n 2, 1) := by decide +kernel
theorem dM_measure_32 : decode prog_11_method_17_code 32 = .ok (.if_icmp .ne (7), 3) := by decide +kernel
theorem dM_measure_35 : decode prog_11_method_17_code 35 = .ok (.iconst 0, 1) := by decide +kernel
theorem dM_measure_36 : decode prog_11_method_17_code 36 = .ok (.goto (5), 3) := by decide +kernel
theorem dM_measure_39 : decode prog_11_method_17_code 39 = .ok (.ldc 81, 2) := by decide +kernel
theorem dM_measure_41 : decode prog_11_method_17_code 41 = .ok (.iastore, 1) := by decide +kernel
theorem dM_measure_42 : decode prog_11_method_17_code 42 = .ok (.iinc 2 (1), 3) := by decide +kernel
theorem dM_measure_45 : decode prog_11_method_17_code 45 = .ok (.goto (-33), 3) := by decide +kernel
theorem dM_measure_48 : decode prog_11_method_17_code 48 = .ok (.iinc 1 (1), 3) := by decide +kernel
theorem dM_measure_51 : decode prog_11_method_17_code 51 = .ok (.goto (-49), 3) := by decide +kernel
theorem dM_measure_54 : decode prog_11_method_17_code 54 = .ok (.iconst 0, 1) := by decide +kernel
theorem dM_measure_55 : decode prog_11_method_17_code 55 = .ok (.istore_n 1, 1) := by decide +kernel
theorem dM_measure_56 : decode prog_11_method_17_code 56 = .ok (.iload_n 1, 1) := by decide +kernel
theorem dM_measure_57 : decode prog_11_method_17_code 57 = .ok (.bipush (24), 2) := by decide +kernel
theorem dM_measure_59 : decode prog_11_method_17_code 59 = .ok (.if_icmp .ge (92), 3) := by decide +kernel
theorem dM_measure_62 : decode prog_11_method_17_code 62 = .ok (.iload_n 1, 1) := by decide +kernel
theorem dM_measure_63 : decode prog_11_method_17_code 63 = .ok (.invokestatic 82, 3) := by decide +kernel
theorem dM_measure_66 : decode prog_11_method_17_code 66 = .ok (.istore_n 2, 1) := by decide +kernel
theorem dM_measure_67 : decode prog_11_method_17_code 67 = .ok (.aload_n 0, 1) := by decide +kernel
theorem dM_measure_68 : decode prog_11_method_17_code 68 = .ok (.getfield 16, 3) := by decide +kernel
theorem dM_measure_71 : decode prog_11_method_17_code 71 = .ok (.iload_n 1, 1) := by decide +kernel
theorem dM_measure_72 : decode prog_11_method_17_code 72 = .ok (.iaload, 1) := by decide +kernel
theorem dM_measure_73 : decode prog_11_method_17_code 73 = .ok (.istore_n 3, 1) := by decide +kernel
theorem dM_measure_74 : decode prog_11_method_17_code 74 = .ok (.iload_n 3, 1) := by decide +kernel
theorem dM_measure_75 : decode prog_11_method_17_code 75 = .ok (.ifCond .le (70), 3) := by decide +kernel
theorem dM_measure_78 : decode prog_11_method_17_code 78 = .ok (.iload_n 2, 1) := by decide +kernel
theorem dM_measure_79 : decode prog_11_method_17_code 79 = .ok (.iload_n 3, 1) := by decide +kernel
theorem dM_measure_80 : decode prog_11_method_17_code 80 = .ok (.if_icmp .eq (65), 3) := by decide +kernel
theorem dM_measure_83 : decode prog_11_method_17_code 83 = .ok (.sipush (1024), 3) := by decide +kernel
theorem dM_measure_86 : decode prog_11_method_17_code 86 = .ok (.aload_n 0, 1) := by decide +kernel
theorem dM_measure_87 : decode prog_11_method_17_code 87 = .ok (.getfield 19, 3) := by decide +kernel
theorem dM_measure_90 : decode prog_11_method_17_code 90 = .ok (.iload_n 1, 1) := by decide +kernel
theorem dM_measure_91 : decode prog_11_method_17_code 91 = .ok (.iaload, 1) := by decide +kernel
theorem dM_measure_92 : decode prog_11_method_17_code 92 = .ok (.imul, 1) := by decide +kernel
theorem dM_measure_93 : decode prog_11_method_17_code 93 = .ok (.aload_n 0, 1) := by decide +kernel
theorem dM_measure_94 : decode prog_11_method_17_code 94 = .ok (.getfield 13, 3) := by decide +kernel
theorem dM_measure_97 : decode prog_11_method_17_code 97 = .ok (.iload_n 3, 1) := by decide +kernel
theorem dM_measure_98 : decode prog_11_method_17_code 98 = .ok (.iaload, 1) := by decide +kernel
theorem dM_measure_99 : decode prog_11_method_17_code 99 = .ok (.isub, 1) := by decide +kernel
theorem dM_measure_100 : decode prog_11_method_17_code 100 = .ok (.istore 4, 2) := by decide +kernel
theorem dM_measure_102 : decode prog_11_method_17_code 102 = .ok (.aload_n 0, 1) := by decide +kernel
theorem dM_measure_103 : decode prog_11_method_17_code 103 = .ok (.getfield 43, 3) := by decide +kernel
theorem dM_measure_106 : decode prog_11_method_17_code 106 = .ok (.bipush (13), 2) := by decide +kernel
theorem dM_measure_108 : decode prog_11_method_17_code 108 = .ok (.iload_n 3, 1) := by decide +kernel
theorem dM_measure_109 : decode prog_11_method_17_code 109 = .ok (.imul, 1) := by decide +kernel
theorem dM_measure_110 : decode prog_11_method_17_code 110 = .ok (.iload_n 2, 1) := by decide +kernel
theorem dM_measure_111 : decode prog_11_method_17_code 111 = .ok (.iadd, 1) := by decide +kernel
theorem dM_measure_112 : decode prog_11_method_17_code 112 = .ok (.iload 4, 2) := by decide +kernel
theorem dM_measure_114 : decode prog_11_method_17_code 114 = .ok (.aload_n 0, 1) := by decide +kernel
theorem dM_measure_115 : decode prog_11_method_17_code 115 = .ok (.getfield 43, 3) := by decide +kernel
theorem dM_measure_118 : decode prog_11_method_17_code 118 = .ok (.bipush (13), 2) := by decide +kernel
theorem dM_measure_120 : decode prog_11_method_17_code 120 = .ok (.iload_n 3, 1) := by decide +kernel
theorem dM_measure_121 : decode prog_11_method_17_code 121 = .ok (.imul, 1) := by decide +kernel
theorem dM_measure_122 : decode prog_11_method_17_code 122 = .ok (.iload_n 2, 1) := by decide +kernel
theorem dM_measure_123 : decode prog_11_method_17_code 123 = .ok (.iadd, 1) := by decide +kernel
theorem dM_measure_124 : decode prog_11_method_17_code 124 = .ok (.iaload, 1) := by decide +kernel
theorem dM_measure_125 : decode prog_11_method_17_code 125 = .ok (.if_icmp .ge (8), 3) := by decide +kernel
theorem dM_measure_128 : decode prog_11_method_17_code 128 = .ok (.iload 4, 2) := by decide +kernel
theorem dM_measure_130 : decode prog_11_method_17_code 130 = .ok (.goto (14), 3) := by decide +kernel
theorem dM_measure_133 : decode prog_11_method_17_code 133 = .ok (.aload_n 0, 1) := by decide +kernel
theorem dM_measure_134 : decode prog_11_method_17_code 134 = .ok (.getfield 43, 3) := by decide +kernel
theorem dM_measure_137 : decode prog_11_method_17_code 137 = .ok (.bipush (13), 2) := by decide +kernel
theorem dM_measure_139 : decode prog_11_method_17_code 139 = .ok (.iload_n 3, 1) := by decide +kernel
theorem dM_measure_140 : decode prog_11_method_17_code 140 = .ok (.imul, 1) := by decide +kernel
theorem dM_measure_141 : decode prog_11_method_17_code 141 = .ok (.iload_n 2, 1) := by decide +kernel
theorem dM_measure_142 : decode prog_11_method_17_code 142 = .ok (.iadd, 1) := by decide +kernel
theorem dM_measure_143 : decode prog_11_method_17_code 143 = .ok (.iaload, 1) := by decide +kernel
theorem dM_measure_144 : decode prog_11_method_17_code 144 = .ok (.iastore, 1) := by decide +kernel
theorem dM_measure_145 : decode prog_11_method_17_code 145 = .ok (.iinc 1 (1), 3) := by decide +kernel
theorem dM_measure_148 : decode prog_11_method_17_code 148 = .ok (.goto (-92), 3) := by decide +kernel
theorem dM_measure_151 : decode prog_11_method_17_code 151 = .ok (.iconst 1, 1) := by decide +kernel
theorem dM_measure_152 : decode prog_11_method_17_code 152 = .ok (.istore_n 1, 1) := by decide +kernel
theorem dM_measure_153 : decode prog_11_method_17_code 153 = .ok (.iload_n 1, 1) := by decide +kernel
theorem dM_measure_154 : decode prog_11_method_17_code 154 = .ok (.aload_n 0, 1) := by decide +kernel
theorem dM_measure_155 : decode prog_11_method_17_code 155 = .ok (.getfield 53, 3) := by decide +kernel
theorem dM_measure_158 : decode prog_11_method_17_code 158 = .ok (.if_icmp .gt (116), 3) := by decide +kernel
theorem dM_measure_161 : decode prog_11_method_17_code 161 = .ok (.iconst 1, 1) := by decide +kernel
theorem dM_measure_162 : decode prog_11_method_17_code 162 = .ok (.istore_n 2, 1) := by decide +kernel
theorem dM_measure_163 : decode prog_11_method_17_code 163 = .ok (.iload_n 2, 1) := by decide +kernel
theorem dM_measure_164 : decode prog_11_method_17_code 164 = .ok (.aload_n 0, 1) := by decide +kernel
theorem dM_measure_165 : decode prog_11_method_17_code 165 = .ok (.getfield 53, 3) := by decide +kernel
theorem dM_measure_168 : decode prog_11_method_17_code 168 = .ok (.if_icmp .gt (100), 3) := by decide +kernel
theorem dM_measure_171 : decode prog_11_method_17_code 171 = .ok (.iconst 1, 1) := by decide +kernel
theorem dM_measure_172 : decode prog_11_method_17_code 172 = .ok (.istore_n 3, 1) := by decide +kernel
theorem dM_measure_173 : decode prog_11_method_17_code 173 = .ok (.iload_n 3, 1) := by decide +kernel
theorem dM_measure_174 : decode prog_11_method_17_code 174 = .ok (.aload_n 0, 1) := by decide +kernel
theorem dM_measure_175 : decode prog_11_method_17_code 175 = .ok (.getfield 53, 3) := by decide +kernel
theorem dM_measure_178 : decode prog_11_method_17_code 178 = .ok (.if_icmp .gt (84), 3) := by decide +kernel
theorem dM_measure_181 : decode prog_11_method_17_code 181 = .ok (.aload_n 0, 1) := by decide +kernel
theorem dM_measure_182 : decode prog_11_method_17_code 182 = .ok (.getfield 43, 3) := by decide +kernel
theorem dM_measure_185 : decode prog_11_method_17_code 185 = .ok (.bipush (13), 2) := by decide +kernel
theorem dM_measure_187 : decode prog_11_method_17_code 187 = .ok (.iload_n 2, 1) := by decide +kernel
theorem dM_measure_188 : decode prog_11_method_17_code 188 = .ok (.imul, 1) := by decide +kernel
theorem dM_measure_189 : decode prog_11_method_17_code 189 = .ok (.iload_n 1, 1) := by decide +kernel
theorem dM_measure_190 : decode prog_11_method_17_code 190 = .ok (.iadd, 1) := by decide +kernel
theorem dM_measure_191 : decode prog_11_method_17_code 191 = .ok (.iaload, 1) := by decide +kernel
theorem dM_measure_192 : decode prog_11_method_17_code 192 = .ok (.istore 4, 2) := by decide +kernel
theorem dM_measure_194 : decode prog_11_method_17_code 194 = .ok (.aload_n 0, 1) := by decide +kernel
theorem dM_measure_195 : decode prog_11_method_17_code 195 = .ok (.getfield 43, 3) := by decide +kernel
theorem dM_measure_198 : decode prog_11_method_17_code 198 = .ok (.bipush (13), 2) := by decide +kernel
theorem dM_measure_200 : decode prog_11_method_17_code 200 = .ok (.iload_n 1, 1) := by decide +kernel
theorem dM_measure_201 : decode prog_11_method_17_code 201 = .ok (.imul, 1) := by decide +kernel
theorem dM_measure_202 : decode prog_11_method_17_code 202 = .ok (.iload_n 3, 1) := by decide +kernel
theorem dM_measure_203 : decode prog_11_method_17_code 203 = .ok (.iadd, 1) := by decide +kernel
theorem dM_measure_204 : decode prog_11_method_17_code 204 = .ok (.iaload, 1) := by decide +kernel
theorem dM_measure_205 : decode prog_11_method_17_code 205 = .ok (.istore 5, 2) := by decide +kernel
theorem dM_measure_207 : decode prog_11_method_17_code 207 = .ok (.iload 4, 2) := by decide +kernel
theorem dM_measure_209 : decode prog_11_method_17_code 209 = .ok (.ldc 81, 2) := by decide +kernel
theorem dM_measure_211 : decode prog_11_method_17_code 211 = .ok (.if_icmp .ge (45), 3) := by decide +kernel
theorem dM_measure_214 : decode prog_11_method_17_code 214 = .ok (.iload 5, 2) := by decide +kernel
theorem dM_measure_216 : decode prog_11_method_17_code 216 = .ok (.ldc 81, 2) := by decide +kernel
theorem dM_measure_218 : decode prog_11_method_17_code 218 = .ok (.if_icmp .ge (38), 3) := by decide +kernel
theorem dM_measure_221 : decode prog_11_method_17_code 221 = .ok (.iload 4, 2) := by decide +kernel
theorem dM_measure_223 : decode prog_11_method_17_code 223 = .ok (.iload 5, 2) := by decide +kernel
theorem dM_measure_225 : decode prog_11_method_17_code 225 = .ok (.iadd, 1) := by decide +kernel
theorem dM_measure_226 : decode prog_11_method_17_code 226 = .ok (.aload_n 0, 1) := by decide +kernel
theorem dM_measure_227 : decode prog_11_method_17_code 227 = .ok (.getfield 43, 3) := by decide +kernel
theorem dM_measure_230 : decode prog_11_method_17_code 230 = .ok (.bipush (13), 2) := by decide +kernel
theorem dM_measure_232 : decode prog_11_method_17_code 232 = .ok (.iload_n 2, 1) := by decide +kernel
theorem dM_measure_233 : decode prog_11_method_17_code 233 = .ok (.imul, 1) := by decide +kernel
theorem dM_measure_234 : decode prog_11_method_17_code 234 = .ok (.iload_n 3, 1) := by decide +kernel
theorem dM_measure_235 : decode prog_11_method_17_code 235 = .ok (.iadd, 1) := by decide +kernel
theorem dM_measure_236 : decode prog_11_method_17_code 236 = .ok (.iaload, 1) := by decide +kernel
theorem dM_measure_237 : decode prog_11_method_17_code 237 = .ok (.if_icmp .ge (19), 3) := by decide +kernel
theorem dM_measure_240 : decode prog_11_method_17_code 240 = .ok (.aload_n 0, 1) := by decide +kernel
theorem dM_measure_241 : decode prog_11_method_17_code 241 = .ok (.getfield 43, 3) := by decide +kernel
theorem dM_measure_244 : decode prog_11_method_17_code 244 = .ok (.bipush (13), 2) := by decide +kernel
theorem dM_measure_246 : decode prog_11_method_17_code 246 = .ok (.iload_n 2, 1) := by decide +kernel
theorem dM_measure_247 : decode prog_11_method_17_code 247 = .ok (.imul, 1) := by decide +kernel
theorem dM_measure_248 : decode prog_11_method_17_code 248 = .ok (.iload_n 3, 1) := by decide +kernel
theorem dM_measure_249 : decode prog_11_method_17_code 249 = .ok (.iadd, 1) := by decide +kernel
theorem dM_measure_250 : decode prog_11_method_17_code 250 = .ok (.iload 4, 2) := by decide +kernel
theorem dM_measure_252 : decode prog_11_method_17_code 252 = .ok (.iload 5, 2) := by decide +kernel
theorem dM_measure_254 : decode prog_11_method_17_code 254 = .ok (.iadd, 1) := by decide +kernel
theorem dM_measure_255 : decode prog_11_method_17_code 255 = .ok (.iastore, 1) := by decide +kernel
theorem dM_measure_256 : decode prog_11_method_17_code 256 = .ok (.iinc 3 (1), 3) := by decide +kernel
theorem dM_measure_259 : decode prog_11_method_17_code 259 = .ok (.goto (-86), 3) := by decide +kernel
theorem dM_measure_262 : decode prog_11_method_17_code 262 = .ok (.iinc 2 (1), 3) := by decide +kernel
theorem dM_measure_265 : decode prog_11_method_17_code 265 = .ok (.goto (-102), 3) := by decide +kernel
theorem dM_measure_268 : decode prog_11_method_17_code 268 = .ok (.iinc 1 (1), 3) := by decide +kernel
theorem dM_measure_271 : decode prog_11_method_17_code 271 = .ok (.goto (-118), 3) := by decide +kernel
theorem dM_measure_274 : decode prog_11_method_17_code 274 = .ok (.return_, 1) := by decide +kernel
theorem dM_weightOf_0 : decode prog_11_method_18_code 0 = .ok (.aload_n 0, 1) := by decide +kernel
theorem dM_weightOf_1 : decode prog_11_method_18_code 1 = .ok (.getfield 43, 3) := by decide +kernel
theorem dM_weightOf_4 : decode prog_11_method_18_code 4 = .ok (.bipush (13), 2) := by decide +kernel
theorem dM_weightOf_6 : decode prog_11_method_18_code 6 = .ok (.iload_n 1, 1) := by decide +kernel
theorem dM_weightOf_7 : decode prog_11_method_18_code 7 = .ok (.imul, 1) := by decide +kernel
theorem dM_weightOf_8 : decode prog_11_method_18_code 8 = .ok (.iload_n 2, 1) := by decide +kernel
theorem dM_weightOf_9 : decode prog_11_method_18_code 9 = .ok (.iadd, 1) := by decide +kernel
theorem dM_weightOf_10 : decode prog_11_method_18_code 10 = .ok (.iaload, 1) := by decide +kernel
theorem dM_weightOf_11 : decode prog_11_method_18_code 11 = .ok (.istore_n 3, 1) := by decide +kernel
theorem dM_weightOf_12 : decode prog_11_method_18_code 12 = .ok (.iload_n 3, 1) := by decide +kernel
theorem dM_weightOf_13 : decode prog_11_method_18_code 13 = .ok (.ldc 81, 2) := by decide +kernel
theorem dM_weightOf_15 : decode prog_11_method_18_code 15 = .ok (.if_icmp .ne (9), 3) := by decide +kernel
theorem dM_weightOf_18 : decode prog_11_method_18_code 18 = .ok (.sipush (1000), 3) := by decide +kernel
theorem dM_weightOf_21 : decode prog_11_method_18_code 21 = .ok (.goto (11), 3) := by decide +kernel
theorem dM_weightOf_24 : decode prog_11_method_18_code 24 = .ok (.iload_n 3, 1) := by decide +kernel
theorem dM_weightOf_25 : decode prog_11_method_18_code 25 = .ok (.sipush (1023), 3) := by decide +kernel
theorem dM_weightOf_28 : decode prog_11_method_18_code 28 = .ok (.iadd, 1) := by decide +kernel
theorem dM_weightOf_29 : decode prog_11_method_18_code 29 = .ok (.bipush (10), 2) := by decide +kernel
theorem dM_weightOf_31 : decode prog_11_method_18_code 31 = .ok (.ishr, 1) := by decide +kernel
theorem dM_weightOf_32 : decode prog_11_method_18_code 32 = .ok (.ireturn, 1) := by decide +kernel
theorem dM_delayOf_0 : decode prog_11_method_19_code 0 = .ok (.sipush (1024), 3) := by decide +kernel
theorem dM_delayOf_3 : decode prog_11_method_19_code 3 = .ok (.aload_n 0, 1) := by decide +kernel
theorem dM_delayOf_4 : decode prog_11_method_19_code 4 = .ok (.iload_n 1, 1) := by decide +kernel
theorem dM_delayOf_5 : decode prog_11_method_19_code 5 = .ok (.iload_n 2, 1) := by decide +kernel
theorem dM_delayOf_6 : decode prog_11_method_19_code 6 = .ok (.invokevirtual 85, 3) := by decide +kernel
theorem dM_delayOf_9 : decode prog_11_method_19_code 9 = .ok (.imul, 1) := by decide +kernel
theorem dM_delayOf_10 : decode prog_11_method_19_code 10 = .ok (.aload_n 0, 1) := by decide +kernel
theorem dM_delayOf_11 : decode prog_11_method_19_code 11 = .ok (.getfield 43, 3) := by decide +kernel
theorem dM_delayOf_14 : decode prog_11_method_19_code 14 = .ok (.bipush (13), 2) := by decide +kernel
theorem dM_delayOf_16 : decode prog_11_method_19_code 16 = .ok (.iload_n 1, 1) := by decide +kernel
theorem dM_delayOf_17 : decode prog_11_method_19_code 17 = .ok (.imul, 1) := by decide +kernel
theorem dM_delayOf_18 : decode prog_11_method_19_code 18 = .ok (.iload_n 2, 1) := by decide +kernel
theorem dM_delayOf_19 : decode prog_11_method_19_code 19 = .ok (.iadd, 1) := by decide +kernel
theorem dM_delayOf_20 : decode prog_11_method_19_code 20 = .ok (.iaload, 1) := by decide +kernel
theorem dM_delayOf_21 : decode prog_11_method_19_code 21 = .ok (.isub, 1) := by decide +kernel
theorem dM_delayOf_22 : decode prog_11_method_19_code 22 = .ok (.aload_n 0, 1) := by decide +kernel
theorem dM_delayOf_23 : decode prog_11_method_19_code 23 = .ok (.getfield 13, 3) := by decide +kernel
theorem dM_delayOf_26 : decode prog_11_method_19_code 26 = .ok (.iload_n 2, 1) := by decide +kernel
theorem dM_delayOf_27 : decode prog_11_method_19_code 27 = .ok (.iaload, 1) := by decide +kernel
theorem dM_delayOf_28 : decode prog_11_method_19_code 28 = .ok (.iadd, 1) := by decide +kernel
theorem dM_delayOf_29 : decode prog_11_method_19_code 29 = .ok (.ireturn, 1) := by decide +kernel
theorem dM_looped_0 : decode prog_11_method_20_code 0 = .ok (.iconst 1, 1) := by decide +kernel
theorem dM_looped_1 : decode prog_11_method_20_code 1 = .ok (.istore_n 1, 1) := by decide +kernel
theorem dM_looped_2 : decode prog_11_method_20_code 2 = .ok (.iload_n 1, 1) := by decide +kernel
theorem dM_looped_3 : decode prog_11_method_20_code 3 = .ok (.aload_n 0, 1) := by decide +kernel
theorem dM_looped_4 : decode prog_11_method_20_code 4 = .ok (.getfield 53, 3) := by decide +kernel
theorem dM_looped_7 : decode prog_11_method_20_code 7 = .ok (.if_icmp .gt (16), 3) := by decide +kernel
theorem dM_looped_10 : decode prog_11_method_20_code 10 = .ok (.aload_n 0, 1) := by decide +kernel
theorem dM_looped_11 : decode prog_11_method_20_code 11 = .ok (.getfield 46, 3) := by decide +kernel
theorem dM_looped_14 : decode prog_11_method_20_code 14 = .ok (.iload_n 1, 1) := by decide +kernel
theorem dM_looped_15 : decode prog_11_method_20_code 15 = .ok (.iconst 0, 1) := by decide +kernel
theorem dM_looped_16 : decode prog_11_method_20_code 16 = .ok (.iastore, 1) := by decide +kernel
theorem dM_looped_17 : decode prog_11_method_20_code 17 = .ok (.iinc 1 (1), 3) := by decide +kernel
theorem dM_looped_20 : decode prog_11_method_20_code 20 = .ok (.goto (-18), 3) := by decide +kernel
theorem dM_looped_23 : decode prog_11_method_20_code 23 = .ok (.iconst 0, 1) := by decide +kernel
theorem dM_looped_24 : decode prog_11_method_20_code 24 = .ok (.istore_n 1, 1) := by decide +kernel
theorem dM_looped_25 : decode prog_11_method_20_code 25 = .ok (.iload_n 1, 1) := by decide +kernel
theorem dM_looped_26 : decode prog_11_method_20_code 26 = .ok (.aload_n 0, 1) := by decide +kernel
theorem dM_looped_27 : decode prog_11_method_20_code 27 = .ok (.getfield 53, 3) := by decide +kernel
theorem dM_looped_30 : decode prog_11_method_20_code 30 = .ok (.if_icmp .ge (121), 3) := by decide +kernel
theorem dM_looped_33 : decode prog_11_method_20_code 33 = .ok (.iconst 1, 1) := by decide +kernel
theorem dM_looped_34 : decode prog_11_method_20_code 34 = .ok (.istore_n 2, 1) := by decide +kernel
theorem dM_looped_35 : decode prog_11_method_20_code 35 = .ok (.iload_n 2, 1) := by decide +kernel
theorem dM_looped_36 : decode prog_11_method_20_code 36 = .ok (.aload_n 0, 1) := by decide +kernel
theorem dM_looped_37 : decode prog_11_method_20_code 37 = .ok (.getfield 53, 3) := by decide +kernel
theorem dM_looped_40 : decode prog_11_method_20_code 40 = .ok (.if_icmp .gt (105), 3) := by decide +kernel
theorem dM_looped_43 : decode prog_11_method_20_code 43 = .ok (.iconst 0, 1) := by decide +kernel
theorem dM_looped_44 : decode prog_11_method_20_code 44 = .ok (.istore_n 3, 1) := by decide +kernel
theorem dM_looped_45 : decode prog_11_method_20_code 45 = .ok (.iconst 0, 1) := by decide +kernel
theorem dM_looped_46 : decode prog_11_method_20_code 46 = .ok (.istore 4, 2) := by decide +kernel
theorem dM_looped_48 : decode prog_11_method_20_code 48 = .ok (.iload 4, 2) := by decide +kernel
theorem dM_looped_50 : decode prog_11_method_20_code 50 = .ok (.aload_n 0, 1) := by decide +kernel
theorem dM_looped_51 : decode prog_11_method_20_code 51 = .ok (.iload_n 2, 1) := by decide +kernel
theorem dM_looped_52 : decode prog_11_method_20_code 52 = .ok (.invokevirtual 63, 3) := by decide +kernel
theorem dM_looped_55 : decode prog_11_method_20_code 55 = .ok (.if_icmp .ge (64), 3) := by decide +kernel
theorem dM_looped_58 : decode prog_11_method_20_code 58 = .ok (.iconst 2, 1) := by decide +kernel
theorem dM_looped_59 : decode prog_11_method_20_code 59 = .ok (.iload_n 2, 1) := by decide +kernel
theorem dM_looped_60 : decode prog_11_method_20_code 60 = .ok (.imul, 1) := by decide +kernel
theorem dM_looped_61 : decode prog_11_method_20_code 61 = .ok (.iconst 2, 1) := by decide +kernel
theorem dM_looped_62 : decode prog_11_method_20_code 62 = .ok (.isub, 1) := by decide +kernel
theorem dM_looped_63 : decode prog_11_method_20_code 63 = .ok (.iload 4, 2) := by decide +kernel
theorem dM_looped_65 : decode prog_11_method_20_code 65 = .ok (.iadd, 1) := by decide +kernel
theorem dM_looped_66 : decode prog_11_method_20_code 66 = .ok (.istore 5, 2) := by decide +kernel
theorem dM_looped_68 : decode prog_11_method_20_code 68 = .ok (.iload_n 3, 1) := by decide +kernel
theorem dM_looped_69 : decode prog_11_method_20_code 69 = .ok (.ifCond .ne (38), 3) := by decide +kernel
theorem dM_looped_72 : decode prog_11_method_20_code 72 = .ok (.aload_n 0, 1) := by decide +kernel
theorem dM_looped_73 : decode prog_11_method_20_code 73 = .ok (.getfield 16, 3) := by decide +kernel
theorem dM_looped_76 : decode prog_11_method_20_code 76 = .ok (.iload 5, 2) := by decide +kernel
theorem dM_looped_78 : decode prog_11_method_20_code 78 = .ok (.iaload, 1) := by decide +kernel
theorem dM_looped_79 : decode prog_11_method_20_code 79 = .ok (.ifCond .le (32), 3) := by decide +kernel
theorem dM_looped_82 : decode prog_11_method_20_code 82 = .ok (.aload_n 0, 1) := by decide +kernel
theorem dM_looped_83 : decode prog_11_method_20_code 83 = .ok (.getfield 19, 3) := by decide +kernel
theorem dM_looped_86 : decode prog_11_method_20_code 86 = .ok (.iload 5, 2) := by decide +kernel
theorem dM_looped_88 : decode prog_11_method_20_code 88 = .ok (.iaload, 1) := by decide +kernel
theorem dM_looped_89 : decode prog_11_method_20_code 89 = .ok (.ifCond .ne (22), 3) := by decide +kernel
theorem dM_looped_92 : decode prog_11_method_20_code 92 = .ok (.aload_n 0, 1) := by decide +kernel
theorem dM_looped_93 : decode prog_11_method_20_code 93 = .ok (.getfield 46, 3) := by decide +kernel
theorem dM_looped_96 : decode prog_11_method_20_code 96 = .ok (.aload_n 0, 1) := by decide +kernel
theorem dM_looped_97 : decode prog_11_method_20_code 97 = .ok (.getfield 16, 3) := by decide +kernel
theorem dM_looped_100 : decode prog_11_method_20_code 100 = .ok (.iload 5, 2) := by decide +kernel
theorem dM_looped_102 : decode prog_11_method_20_code 102 = .ok (.iaload, 1) := by decide +kernel
theorem dM_looped_103 : decode prog_11_method_20_code 103 = .ok (.iaload, 1) := by decide +kernel
theorem dM_looped_104 : decode prog_11_method_20_code 104 = .ok (.ifCond .ne (7), 3) := by decide +kernel
theorem dM_looped_107 : decode prog_11_method_20_code 107 = .ok (.iconst 1, 1) := by decide +kernel
theorem dM_looped_108 : decode prog_11_method_20_code 108 = .ok (.goto (4), 3) := by decide +kernel
theorem dM_looped_111 : decode prog_11_method_20_code 111 = .ok (.iconst 0, 1) := by decide +kernel
theorem dM_looped_112 : decode prog_11_method_20_code 112 = .ok (.istore_n 3, 1) := by decide +kernel
theorem dM_looped_113 : decode prog_11_method_20_code 113 = .ok (.iinc 4 (1), 3) := by decide +kernel
theorem dM_looped_116 : decode prog_11_method_20_code 116 = .ok (.goto (-68), 3) := by decide +kernel
theorem dM_looped_119 : decode prog_11_method_20_code 119 = .ok (.aload_n 0, 1) := by decide +kernel
theorem dM_looped_120 : decode prog_11_method_20_code 120 = .ok (.getfield 46, 3) := by decide +kernel
theorem dM_looped_123 : decode prog_11_method_20_code 123 = .ok (.iload_n 2, 1) := by decide +kernel
theorem dM_looped_124 : decode prog_11_method_20_code 124 = .ok (.iload_n 3, 1) := by decide +kernel
theorem dM_looped_125 : decode prog_11_method_20_code 125 = .ok (.ifCond .eq (12), 3) := by decide +kernel
theorem dM_looped_128 : decode prog_11_method_20_code 128 = .ok (.aload_n 0, 1) := by decide +kernel
theorem dM_looped_129 : decode prog_11_method_20_code 129 = .ok (.getfield 46, 3) := by decide +kernel
theorem dM_looped_132 : decode prog_11_method_20_code 132 = .ok (.iload_n 2, 1) := by decide +kernel
theorem dM_looped_133 : decode prog_11_method_20_code 133 = .ok (.iaload, 1) := by decide +kernel
theorem dM_looped_134 : decode prog_11_method_20_code 134 = .ok (.goto (4), 3) := by decide +kernel
theorem dM_looped_137 : decode prog_11_method_20_code 137 = .ok (.iconst 1, 1) := by decide +kernel
theorem dM_looped_138 : decode prog_11_method_20_code 138 = .ok (.iastore, 1) := by decide +kernel
theorem dM_looped_139 : decode prog_11_method_20_code 139 = .ok (.iinc 2 (1), 3) := by decide +kernel
theorem dM_looped_142 : decode prog_11_method_20_code 142 = .ok (.goto (-107), 3) := by decide +kernel
theorem dM_looped_145 : decode prog_11_method_20_code 145 = .ok (.iinc 1 (1), 3) := by decide +kernel
theorem dM_looped_148 : decode prog_11_method_20_code 148 = .ok (.goto (-123), 3) := by decide +kernel
theorem dM_looped_151 : decode prog_11_method_20_code 151 = .ok (.iconst 0, 1) := by decide +kernel
theorem dM_looped_152 : decode prog_11_method_20_code 152 = .ok (.istore_n 1, 1) := by decide +kernel
theorem dM_looped_153 : decode prog_11_method_20_code 153 = .ok (.iconst 1, 1) := by decide +kernel
theorem dM_looped_154 : decode prog_11_method_20_code 154 = .ok (.istore_n 2, 1) := by decide +kernel
theorem dM_looped_155 : decode prog_11_method_20_code 155 = .ok (.iload_n 2, 1) := by decide +kernel
theorem dM_looped_156 : decode prog_11_method_20_code 156 = .ok (.aload_n 0, 1) := by decide +kernel
theorem dM_looped_157 : decode prog_11_method_20_code 157 = .ok (.getfield 53, 3) := by decide +kernel
theorem dM_looped_160 : decode prog_11_method_20_code 160 = .ok (.if_icmp .gt (28), 3) := by decide +kernel
theorem dM_looped_163 : decode prog_11_method_20_code 163 = .ok (.iload_n 1, 1) := by decide +kernel
theorem dM_looped_164 : decode prog_11_method_20_code 164 = .ok (.ifCond .ne (12), 3) := by decide +kernel
theorem dM_looped_167 : decode prog_11_method_20_code 167 = .ok (.aload_n 0, 1) := by decide +kernel
theorem dM_looped_168 : decode prog_11_method_20_code 168 = .ok (.getfield 46, 3) := by decide +kernel
theorem dM_looped_171 : decode prog_11_method_20_code 171 = .ok (.iload_n 2, 1) := by decide +kernel
theorem dM_looped_172 : decode prog_11_method_20_code 172 = .ok (.iaload, 1) := by decide +kernel
theorem dM_looped_173 : decode prog_11_method_20_code 173 = .ok (.ifCond .ne (7), 3) := by decide +kernel
theorem dM_looped_176 : decode prog_11_method_20_code 176 = .ok (.iconst 1, 1) := by decide +kernel
theorem dM_looped_177 : decode prog_11_method_20_code 177 = .ok (.goto (4), 3) := by decide +kernel
theorem dM_looped_180 : decode prog_11_method_20_code 180 = .ok (.iconst 0, 1) := by decide +kernel
theorem dM_looped_181 : decode prog_11_method_20_code 181 = .ok (.istore_n 1, 1) := by decide +kernel
theorem dM_looped_182 : decode prog_11_method_20_code 182 = .ok (.iinc 2 (1), 3) := by decide +kernel
theorem dM_looped_185 : decode prog_11_method_20_code 185 = .ok (.goto (-30), 3) := by decide +kernel
theorem dM_looped_188 : decode prog_11_method_20_code 188 = .ok (.iload_n 1, 1) := by decide +kernel
theorem dM_looped_189 : decode prog_11_method_20_code 189 = .ok (.ireturn, 1) := by decide +kernel
theorem dM_isSound_0 : decode prog_11_method_21_code 0 = .ok (.iconst 1, 1) := by decide +kernel
theorem dM_isSound_1 : decode prog_11_method_21_code 1 = .ok (.istore_n 1, 1) := by decide +kernel
theorem dM_isSound_2 : decode prog_11_method_21_code 2 = .ok (.iconst 1, 1) := by decide +kernel
theorem dM_isSound_3 : decode prog_11_method_21_code 3 = .ok (.istore_n 2, 1) := by decide +kernel
theorem dM_isSound_4 : decode prog_11_method_21_code 4 = .ok (.iload_n 2, 1) := by decide +kernel
theorem dM_isSound_5 : decode prog_11_method_21_code 5 = .ok (.aload_n 0, 1) := by decide +kernel
theorem dM_isSound_6 : decode prog_11_method_21_code 6 = .ok (.getfield 53, 3) := by decide +kernel
theorem dM_isSound_9 : decode prog_11_method_21_code 9 = .ok (.if_icmp .gt (107), 3) := by decide +kernel
theorem dM_isSound_12 : decode prog_11_method_21_code 12 = .ok (.iconst 0, 1) := by decide +kernel
theorem dM_isSound_13 : decode prog_11_method_21_code 13 = .ok (.istore_n 3, 1) := by decide +kernel
theorem dM_isSound_14 : decode prog_11_method_21_code 14 = .ok (.iconst 0, 1) := by decide +kernel
theorem dM_isSound_15 : decode prog_11_method_21_code 15 = .ok (.istore 4, 2) := by decide +kernel
theorem dM_isSound_17 : decode prog_11_method_21_code 17 = .ok (.iload 4, 2) := by decide +kernel
theorem dM_isSound_19 : decode prog_11_method_21_code 19 = .ok (.bipush (27), 2) := by decide +kernel
theorem dM_isSound_21 : decode prog_11_method_21_code 21 = .ok (.if_icmp .ge (30), 3) := by decide +kernel
theorem dM_isSound_24 : decode prog_11_method_21_code 24 = .ok (.iload_n 3, 1) := by decide +kernel
theorem dM_isSound_25 : decode prog_11_method_21_code 25 = .ok (.ifCond .ne (14), 3) := by decide +kernel
theorem dM_isSound_28 : decode prog_11_method_21_code 28 = .ok (.aload_n 0, 1) := by decide +kernel
theorem dM_isSound_29 : decode prog_11_method_21_code 29 = .ok (.getfield 16, 3) := by decide +kernel
theorem dM_isSound_32 : decode prog_11_method_21_code 32 = .ok (.iload 4, 2) := by decide +kernel
theorem dM_isSound_34 : decode prog_11_method_21_code 34 = .ok (.iaload, 1) := by decide +kernel
theorem dM_isSound_35 : decode prog_11_method_21_code 35 = .ok (.iload_n 2, 1) := by decide +kernel
theorem dM_isSound_36 : decode prog_11_method_21_code 36 = .ok (.if_icmp .ne (7), 3) := by decide +kernel
theorem dM_isSound_39 : decode prog_11_method_21_code 39 = .ok (.iconst 1, 1) := by decide +kernel
theorem dM_isSound_40 : decode prog_11_method_21_code 40 = .ok (.goto (4), 3) := by decide +kernel
theorem dM_isSound_43 : decode prog_11_method_21_code 43 = .ok (.iconst 0, 1) := by decide +kernel
theorem dM_isSound_44 : decode prog_11_method_21_code 44 = .ok (.istore_n 3, 1) := by decide +kernel
theorem dM_isSound_45 : decode prog_11_method_21_code 45 = .ok (.iinc 4 (1), 3) := by decide +kernel
theorem dM_isSound_48 : decode prog_11_method_21_code 48 = .ok (.goto (-31), 3) := by decide +kernel
theorem dM_isSound_51 : decode prog_11_method_21_code 51 = .ok (.iload_n 1, 1) := by decide +kernel
theorem dM_isSound_52 : decode prog_11_method_21_code 52 = .ok (.ifCond .eq (11), 3) := by decide +kernel
theorem dM_isSound_55 : decode prog_11_method_21_code 55 = .ok (.iload_n 3, 1) := by decide +kernel
theorem dM_isSound_56 : decode prog_11_method_21_code 56 = .ok (.ifCond .eq (7), 3) := by decide +kernel
theorem dM_isSound_59 : decode prog_11_method_21_code 59 = .ok (.iconst 1, 1) := by decide +kernel
theorem dM_isSound_60 : decode prog_11_method_21_code 60 = .ok (.goto (4), 3) := by decide +kernel
theorem dM_isSound_63 : decode prog_11_method_21_code 63 = .ok (.iconst 0, 1) := by decide +kernel
theorem dM_isSound_64 : decode prog_11_method_21_code 64 = .ok (.istore_n 1, 1) := by decide +kernel
theorem dM_isSound_65 : decode prog_11_method_21_code 65 = .ok (.iconst 0, 1) := by decide +kernel
theorem dM_isSound_66 : decode prog_11_method_21_code 66 = .ok (.istore 4, 2) := by decide +kernel
theorem dM_isSound_68 : decode prog_11_method_21_code 68 = .ok (.iload 4, 2) := by decide +kernel
theorem dM_isSound_70 : decode prog_11_method_21_code 70 = .ok (.aload_n 0, 1) := by decide +kernel
theorem dM_isSound_71 : decode prog_11_method_21_code 71 = .ok (.iload_n 2, 1) := by decide +kernel
theorem dM_isSound_72 : decode prog_11_method_21_code 72 = .ok (.invokevirtual 63, 3) := by decide +kernel
theorem dM_isSound_75 : decode prog_11_method_21_code 75 = .ok (.if_icmp .ge (35), 3) := by decide +kernel
theorem dM_isSound_78 : decode prog_11_method_21_code 78 = .ok (.iload_n 1, 1) := by decide +kernel
theorem dM_isSound_79 : decode prog_11_method_21_code 79 = .ok (.ifCond .eq (23), 3) := by decide +kernel
theorem dM_isSound_82 : decode prog_11_method_21_code 82 = .ok (.aload_n 0, 1) := by decide +kernel
theorem dM_isSound_83 : decode prog_11_method_21_code 83 = .ok (.getfield 16, 3) := by decide +kernel
theorem dM_isSound_86 : decode prog_11_method_21_code 86 = .ok (.iconst 2, 1) := by decide +kernel
theorem dM_isSound_87 : decode prog_11_method_21_code 87 = .ok (.iload_n 2, 1) := by decide +kernel
theorem dM_isSound_88 : decode prog_11_method_21_code 88 = .ok (.imul, 1) := by decide +kernel
theorem dM_isSound_89 : decode prog_11_method_21_code 89 = .ok (.iconst 2, 1) := by decide +kernel
theorem dM_isSound_90 : decode prog_11_method_21_code 90 = .ok (.isub, 1) := by decide +kernel
theorem dM_isSound_91 : decode prog_11_method_21_code 91 = .ok (.iload 4, 2) := by decide +kernel
theorem dM_isSound_93 : decode prog_11_method_21_code 93 = .ok (.iadd, 1) := by decide +kernel
theorem dM_isSound_94 : decode prog_11_method_21_code 94 = .ok (.iaload, 1) := by decide +kernel
theorem dM_isSound_95 : decode prog_11_method_21_code 95 = .ok (.ifCond .eq (7), 3) := by decide +kernel
theorem dM_isSound_98 : decode prog_11_method_21_code 98 = .ok (.iconst 1, 1) := by decide +kernel
theorem dM_isSound_99 : decode prog_11_method_21_code 99 = .ok (.goto (4), 3) := by decide +kernel
theorem dM_isSound_102 : decode prog_11_method_21_code 102 = .ok (.iconst 0, 1) := by decide +kernel
theorem dM_isSound_103 : decode prog_11_method_21_code 103 = .ok (.istore_n 1, 1) := by decide +kernel
theorem dM_isSound_104 : decode prog_11_method_21_code 104 = .ok (.iinc 4 (1), 3) := by decide +kernel
theorem dM_isSound_107 : decode prog_11_method_21_code 107 = .ok (.goto (-39), 3) := by decide +kernel
theorem dM_isSound_110 : decode prog_11_method_21_code 110 = .ok (.iinc 2 (1), 3) := by decide +kernel
theorem dM_isSound_113 : decode prog_11_method_21_code 113 = .ok (.goto (-109), 3) := by decide +kernel
theorem dM_isSound_116 : decode prog_11_method_21_code 116 = .ok (.iload_n 1, 1) := by decide +kernel
theorem dM_isSound_117 : decode prog_11_method_21_code 117 = .ok (.ifCond .eq (14), 3) := by decide +kernel
theorem dM_isSound_120 : decode prog_11_method_21_code 120 = .ok (.aload_n 0, 1) := by decide +kernel
theorem dM_isSound_121 : decode prog_11_method_21_code 121 = .ok (.invokevirtual 88, 3) := by decide +kernel
theorem dM_isSound_124 : decode prog_11_method_21_code 124 = .ok (.ifCond .ne (7), 3) := by decide +kernel
theorem dM_isSound_127 : decode prog_11_method_21_code 127 = .ok (.iconst 1, 1) := by decide +kernel
theorem dM_isSound_128 : decode prog_11_method_21_code 128 = .ok (.goto (4), 3) := by decide +kernel
theorem dM_isSound_131 : decode prog_11_method_21_code 131 = .ok (.iconst 0, 1) := by decide +kernel
theorem dM_isSound_132 : decode prog_11_method_21_code 132 = .ok (.ireturn, 1) := by decide +kernel
theorem dM_sound_0 : decode prog_11_method_22_code 0 = .ok (.aload_n 0, 1) := by decide +kernel
theorem dM_sound_1 : decode prog_11_method_22_code 1 = .ok (.iconst 0, 1) := by decide +kernel
theorem dM_sound_2 : decode prog_11_method_22_code 2 = .ok (.putfield 49, 3) := by decide +kernel
theorem dM_sound_5 : decode prog_11_method_22_code 5 = .ok (.aload_n 0, 1) := by decide +kernel
theorem dM_sound_6 : decode prog_11_method_22_code 6 = .ok (.invokevirtual 92, 3) := by decide +kernel
theorem dM_sound_9 : decode prog_11_method_22_code 9 = .ok (.ireturn, 1) := by decide +kernel
theorem dM_period_0 : decode prog_11_method_23_code 0 = .ok (.aload_n 0, 1) := by decide +kernel
theorem dM_period_1 : decode prog_11_method_23_code 1 = .ok (.aload_n 0, 1) := by decide +kernel
theorem dM_period_2 : decode prog_11_method_23_code 2 = .ok (.invokevirtual 92, 3) := by decide +kernel
theorem dM_period_5 : decode prog_11_method_23_code 5 = .ok (.ifCond .eq (7), 3) := by decide +kernel
theorem dM_period_8 : decode prog_11_method_23_code 8 = .ok (.iconst 0, 1) := by decide +kernel
theorem dM_period_9 : decode prog_11_method_23_code 9 = .ok (.goto (4), 3) := by decide +kernel
theorem dM_period_12 : decode prog_11_method_23_code 12 = .ok (.iconst 1, 1) := by decide +kernel
theorem dM_period_13 : decode prog_11_method_23_code 13 = .ok (.putfield 49, 3) := by decide +kernel
theorem dM_period_16 : decode prog_11_method_23_code 16 = .ok (.aload_n 0, 1) := by decide +kernel
theorem dM_period_17 : decode prog_11_method_23_code 17 = .ok (.getfield 49, 3) := by decide +kernel
theorem dM_period_20 : decode prog_11_method_23_code 20 = .ok (.ifCond .eq (5), 3) := by decide +kernel
theorem dM_period_23 : decode prog_11_method_23_code 23 = .ok (.iconst 0, 1) := by decide +kernel
theorem dM_period_24 : decode prog_11_method_23_code 24 = .ok (.ireturn, 1) := by decide +kernel
theorem dM_period_25 : decode prog_11_method_23_code 25 = .ok (.aload_n 0, 1) := by decide +kernel
theorem dM_period_26 : decode prog_11_method_23_code 26 = .ok (.invokevirtual 95, 3) := by decide +kernel
theorem dM_period_29 : decode prog_11_method_23_code 29 = .ok (.iconst 0, 1) := by decide +kernel
theorem dM_period_30 : decode prog_11_method_23_code 30 = .ok (.istore_n 1, 1) := by decide +kernel
theorem dM_period_31 : decode prog_11_method_23_code 31 = .ok (.iconst 1, 1) := by decide +kernel
theorem dM_period_32 : decode prog_11_method_23_code 32 = .ok (.istore_n 2, 1) := by decide +kernel
theorem dM_period_33 : decode prog_11_method_23_code 33 = .ok (.iload_n 2, 1) := by decide +kernel
theorem dM_period_34 : decode prog_11_method_23_code 34 = .ok (.aload_n 0, 1) := by decide +kernel
theorem dM_period_35 : decode prog_11_method_23_code 35 = .ok (.getfield 53, 3) := by decide +kernel
theorem dM_period_38 : decode prog_11_method_23_code 38 = .ok (.if_icmp .gt (55), 3) := by decide +kernel
theorem dM_period_41 : decode prog_11_method_23_code 41 = .ok (.iconst 1, 1) := by decide +kernel
theorem dM_period_42 : decode prog_11_method_23_code 42 = .ok (.istore_n 3, 1) := by decide +kernel
theorem dM_period_43 : decode prog_11_method_23_code 43 = .ok (.iload_n 3, 1) := by decide +kernel
theorem dM_period_44 : decode prog_11_method_23_code 44 = .ok (.aload_n 0, 1) := by decide +kernel
theorem dM_period_45 : decode prog_11_method_23_code 45 = .ok (.getfield 53, 3) := by decide +kernel
theorem dM_period_48 : decode prog_11_method_23_code 48 = .ok (.if_icmp .gt (39), 3) := by decide +kernel
theorem dM_period_51 : decode prog_11_method_23_code 51 = .ok (.aload_n 0, 1) := by decide +kernel
theorem dM_period_52 : decode prog_11_method_23_code 52 = .ok (.iload_n 2, 1) := by decide +kernel
theorem dM_period_53 : decode prog_11_method_23_code 53 = .ok (.iload_n 3, 1) := by decide +kernel
theorem dM_period_54 : decode prog_11_method_23_code 54 = .ok (.invokevirtual 85, 3) := by decide +kernel
theorem dM_period_57 : decode prog_11_method_23_code 57 = .ok (.ifCond .ne (22), 3) := by decide +kernel
theorem dM_period_60 : decode prog_11_method_23_code 60 = .ok (.aload_n 0, 1) := by decide +kernel
theorem dM_period_61 : decode prog_11_method_23_code 61 = .ok (.iload_n 2, 1) := by decide +kernel
theorem dM_period_62 : decode prog_11_method_23_code 62 = .ok (.iload_n 3, 1) := by decide +kernel
theorem dM_period_63 : decode prog_11_method_23_code 63 = .ok (.invokevirtual 98, 3) := by decide +kernel
theorem dM_period_66 : decode prog_11_method_23_code 66 = .ok (.iload_n 1, 1) := by decide +kernel
theorem dM_period_67 : decode prog_11_method_23_code 67 = .ok (.if_icmp .le (12), 3) := by decide +kernel
theorem dM_period_70 : decode prog_11_method_23_code 70 = .ok (.aload_n 0, 1) := by decide +kernel
theorem dM_period_71 : decode prog_11_method_23_code 71 = .ok (.iload_n 2, 1) := by decide +kernel
theorem dM_period_72 : decode prog_11_method_23_code 72 = .ok (.iload_n 3, 1) := by decide +kernel
theorem dM_period_73 : decode prog_11_method_23_code 73 = .ok (.invokevirtual 98, 3) := by decide +kernel
theorem dM_period_76 : decode prog_11_method_23_code 76 = .ok (.goto (4), 3) := by decide +kernel
theorem dM_period_79 : decode prog_11_method_23_code 79 = .ok (.iload_n 1, 1) := by decide +kernel
theorem dM_period_80 : decode prog_11_method_23_code 80 = .ok (.istore_n 1, 1) := by decide +kernel
theorem dM_period_81 : decode prog_11_method_23_code 81 = .ok (.iinc 3 (1), 3) := by decide +kernel
theorem dM_period_84 : decode prog_11_method_23_code 84 = .ok (.goto (-41), 3) := by decide +kernel
theorem dM_period_87 : decode prog_11_method_23_code 87 = .ok (.iinc 2 (1), 3) := by decide +kernel
theorem dM_period_90 : decode prog_11_method_23_code 90 = .ok (.goto (-57), 3) := by decide +kernel
theorem dM_period_93 : decode prog_11_method_23_code 93 = .ok (.iload_n 1, 1) := by decide +kernel
theorem dM_period_94 : decode prog_11_method_23_code 94 = .ok (.ireturn, 1) := by decide +kernel
theorem dM_weight_0 : decode prog_11_method_24_code 0 = .ok (.aload_n 0, 1) := by decide +kernel
theorem dM_weight_1 : decode prog_11_method_24_code 1 = .ok (.aload_n 0, 1) := by decide +kernel
theorem dM_weight_2 : decode prog_11_method_24_code 2 = .ok (.iload_n 1, 1) := by decide +kernel
theorem dM_weight_3 : decode prog_11_method_24_code 3 = .ok (.invokevirtual 60, 3) := by decide +kernel
theorem dM_weight_6 : decode prog_11_method_24_code 6 = .ok (.ifCond .eq (11), 3) := by decide +kernel
theorem dM_weight_9 : decode prog_11_method_24_code 9 = .ok (.aload_n 0, 1) := by decide +kernel
theorem dM_weight_10 : decode prog_11_method_24_code 10 = .ok (.iload_n 2, 1) := by decide +kernel
theorem dM_weight_11 : decode prog_11_method_24_code 11 = .ok (.invokevirtual 60, 3) := by decide +kernel
theorem dM_weight_14 : decode prog_11_method_24_code 14 = .ok (.ifCond .ne (7), 3) := by decide +kernel
theorem dM_weight_17 : decode prog_11_method_24_code 17 = .ok (.iconst 1, 1) := by decide +kernel
theorem dM_weight_18 : decode prog_11_method_24_code 18 = .ok (.goto (15), 3) := by decide +kernel
theorem dM_weight_21 : decode prog_11_method_24_code 21 = .ok (.aload_n 0, 1) := by decide +kernel
theorem dM_weight_22 : decode prog_11_method_24_code 22 = .ok (.invokevirtual 92, 3) := by decide +kernel
theorem dM_weight_25 : decode prog_11_method_24_code 25 = .ok (.ifCond .eq (7), 3) := by decide +kernel
theorem dM_weight_28 : decode prog_11_method_24_code 28 = .ok (.iconst 0, 1) := by decide +kernel
theorem dM_weight_29 : decode prog_11_method_24_code 29 = .ok (.goto (4), 3) := by decide +kernel
theorem dM_weight_32 : decode prog_11_method_24_code 32 = .ok (.iconst 2, 1) := by decide +kernel
theorem dM_weight_33 : decode prog_11_method_24_code 33 = .ok (.putfield 49, 3) := by decide +kernel
theorem dM_weight_36 : decode prog_11_method_24_code 36 = .ok (.aload_n 0, 1) := by decide +kernel
theorem dM_weight_37 : decode prog_11_method_24_code 37 = .ok (.getfield 49, 3) := by decide +kernel
theorem dM_weight_40 : decode prog_11_method_24_code 40 = .ok (.ifCond .eq (5), 3) := by decide +kernel
theorem dM_weight_43 : decode prog_11_method_24_code 43 = .ok (.iconst 0, 1) := by decide +kernel
theorem dM_weight_44 : decode prog_11_method_24_code 44 = .ok (.ireturn, 1) := by decide +kernel
theorem dM_weight_45 : decode prog_11_method_24_code 45 = .ok (.aload_n 0, 1) := by decide +kernel
theorem dM_weight_46 : decode prog_11_method_24_code 46 = .ok (.invokevirtual 95, 3) := by decide +kernel
theorem dM_weight_49 : decode prog_11_method_24_code 49 = .ok (.aload_n 0, 1) := by decide +kernel
theorem dM_weight_50 : decode prog_11_method_24_code 50 = .ok (.iload_n 1, 1) := by decide +kernel
theorem dM_weight_51 : decode prog_11_method_24_code 51 = .ok (.iload_n 2, 1) := by decide +kernel
theorem dM_weight_52 : decode prog_11_method_24_code 52 = .ok (.invokevirtual 85, 3) := by decide +kernel
theorem dM_weight_55 : decode prog_11_method_24_code 55 = .ok (.sipush (1000), 3) := by decide +kernel
theorem dM_weight_58 : decode prog_11_method_24_code 58 = .ok (.if_icmp .ne (7), 3) := by decide +kernel
theorem dM_weight_61 : decode prog_11_method_24_code 61 = .ok (.iconst (-1), 1) := by decide +kernel
theorem dM_weight_62 : decode prog_11_method_24_code 62 = .ok (.goto (9), 3) := by decide +kernel
theorem dM_weight_65 : decode prog_11_method_24_code 65 = .ok (.aload_n 0, 1) := by decide +kernel
theorem dM_weight_66 : decode prog_11_method_24_code 66 = .ok (.iload_n 1, 1) := by decide +kernel
theorem dM_weight_67 : decode prog_11_method_24_code 67 = .ok (.iload_n 2, 1) := by decide +kernel
theorem dM_weight_68 : decode prog_11_method_24_code 68 = .ok (.invokevirtual 85, 3) := by decide +kernel
theorem dM_weight_71 : decode prog_11_method_24_code 71 = .ok (.ireturn, 1) := by decide +kernel
theorem dM_delay_0 : decode prog_11_method_25_code 0 = .ok (.aload_n 0, 1) := by decide +kernel
theorem dM_delay_1 : decode prog_11_method_25_code 1 = .ok (.aload_n 0, 1) := by decide +kernel
theorem dM_delay_2 : decode prog_11_method_25_code 2 = .ok (.iload_n 1, 1) := by decide +kernel
theorem dM_delay_3 : decode prog_11_method_25_code 3 = .ok (.invokevirtual 60, 3) := by decide +kernel
theorem dM_delay_6 : decode prog_11_method_25_code 6 = .ok (.ifCond .eq (11), 3) := by decide +kernel
theorem dM_delay_9 : decode prog_11_method_25_code 9 = .ok (.aload_n 0, 1) := by decide +kernel
theorem dM_delay_10 : decode prog_11_method_25_code 10 = .ok (.iload_n 2, 1) := by decide +kernel
theorem dM_delay_11 : decode prog_11_method_25_code 11 = .ok (.invokevirtual 60, 3) := by decide +kernel
theorem dM_delay_14 : decode prog_11_method_25_code 14 = .ok (.ifCond .ne (7), 3) := by decide +kernel
theorem dM_delay_17 : decode prog_11_method_25_code 17 = .ok (.iconst 1, 1) := by decide +kernel
theorem dM_delay_18 : decode prog_11_method_25_code 18 = .ok (.goto (15), 3) := by decide +kernel
theorem dM_delay_21 : decode prog_11_method_25_code 21 = .ok (.aload_n 0, 1) := by decide +kernel
theorem dM_delay_22 : decode prog_11_method_25_code 22 = .ok (.invokevirtual 92, 3) := by decide +kernel
theorem dM_delay_25 : decode prog_11_method_25_code 25 = .ok (.ifCond .eq (7), 3) := by decide +kernel
theorem dM_delay_28 : decode prog_11_method_25_code 28 = .ok (.iconst 0, 1) := by decide +kernel
theorem dM_delay_29 : decode prog_11_method_25_code 29 = .ok (.goto (4), 3) := by decide +kernel
theorem dM_delay_32 : decode prog_11_method_25_code 32 = .ok (.iconst 2, 1) := by decide +kernel
theorem dM_delay_33 : decode prog_11_method_25_code 33 = .ok (.putfield 49, 3) := by decide +kernel
theorem dM_delay_36 : decode prog_11_method_25_code 36 = .ok (.aload_n 0, 1) := by decide +kernel
theorem dM_delay_37 : decode prog_11_method_25_code 37 = .ok (.getfield 49, 3) := by decide +kernel
theorem dM_delay_40 : decode prog_11_method_25_code 40 = .ok (.ifCond .eq (5), 3) := by decide +kernel
theorem dM_delay_43 : decode prog_11_method_25_code 43 = .ok (.iconst 0, 1) := by decide +kernel
theorem dM_delay_44 : decode prog_11_method_25_code 44 = .ok (.ireturn, 1) := by decide +kernel
theorem dM_delay_45 : decode prog_11_method_25_code 45 = .ok (.aload_n 0, 1) := by decide +kernel
theorem dM_delay_46 : decode prog_11_method_25_code 46 = .ok (.invokevirtual 95, 3) := by decide +kernel
theorem dM_delay_49 : decode prog_11_method_25_code 49 = .ok (.aload_n 0, 1) := by decide +kernel
theorem dM_delay_50 : decode prog_11_method_25_code 50 = .ok (.iload_n 1, 1) := by decide +kernel
theorem dM_delay_51 : decode prog_11_method_25_code 51 = .ok (.iload_n 2, 1) := by decide +kernel
theorem dM_delay_52 : decode prog_11_method_25_code 52 = .ok (.invokevirtual 85, 3) := by decide +kernel
theorem dM_delay_55 : decode prog_11_method_25_code 55 = .ok (.sipush (1000), 3) := by decide +kernel
theorem dM_delay_58 : decode prog_11_method_25_code 58 = .ok (.if_icmp .ne (7), 3) := by decide +kernel
theorem dM_delay_61 : decode prog_11_method_25_code 61 = .ok (.iconst (-1), 1) := by decide +kernel
theorem dM_delay_62 : decode prog_11_method_25_code 62 = .ok (.goto (9), 3) := by decide +kernel
theorem dM_delay_65 : decode prog_11_method_25_code 65 = .ok (.aload_n 0, 1) := by decide +kernel
theorem dM_delay_66 : decode prog_11_method_25_code 66 = .ok (.iload_n 1, 1) := by decide +kernel
theorem dM_delay_67 : decode prog_11_method_25_code 67 = .ok (.iload_n 2, 1) := by decide +kernel
theorem dM_delay_68 : decode prog_11_method_25_code 68 = .ok (.invokevirtual 98, 3) := by decide +kernel
theorem dM_delay_71 : decode prog_11_method_25_code 71 = .ok (.ireturn, 1) := by decide +kernel
theorem dM_labelOf_0 : decode prog_11_method_26_code 0 = .ok (.iload_n 1, 1) := by decide +kernel
theorem dM_labelOf_1 : decode prog_11_method_26_code 1 = .ok (.ifCond .le (12), 3) := by decide +kernel
theorem dM_labelOf_4 : decode prog_11_method_26_code 4 = .ok (.aload_n 0, 1) := by decide +kernel
theorem dM_labelOf_5 : decode prog_11_method_26_code 5 = .ok (.getfield 37, 3) := by decide +kernel
theorem dM_labelOf_8 : decode prog_11_method_26_code 8 = .ok (.iload_n 1, 1) := by decide +kernel
theorem dM_labelOf_9 : decode prog_11_method_26_code 9 = .ok (.iaload, 1) := by decide +kernel
theorem dM_labelOf_10 : decode prog_11_method_26_code 10 = .ok (.goto (4), 3) := by decide +kernel
theorem dM_labelOf_13 : decode prog_11_method_26_code 13 = .ok (.iconst 0, 1) := by decide +kernel
theorem dM_labelOf_14 : decode prog_11_method_26_code 14 = .ok (.ireturn, 1) := by decide +kernel
theorem dM_lower_0 : decode prog_11_method_27_code 0 = .ok (.iload_n 1, 1) := by decide +kernel
theorem dM_lower_1 : decode prog_11_method_27_code 1 = .ok (.ifCond .gt (13), 3) := by decide +kernel
theorem dM_lower_4 : decode prog_11_method_27_code 4 = .ok (.iload_n 2, 1) := by decide +kernel
theorem dM_lower_5 : decode prog_11_method_27_code 5 = .ok (.ifCond .lt (7), 3) := by decide +kernel
theorem dM_lower_8 : decode prog_11_method_27_code 8 = .ok (.iconst 1, 1) := by decide +kernel
theorem dM_lower_9 : decode prog_11_method_27_code 9 = .ok (.goto (4), 3) := by decide +kernel
theorem dM_lower_12 : decode prog_11_method_27_code 12 = .ok (.iconst 0, 1) := by decide +kernel
theorem dM_lower_13 : decode prog_11_method_27_code 13 = .ok (.ireturn, 1) := by decide +kernel
theorem dM_lower_14 : decode prog_11_method_27_code 14 = .ok (.aload_n 0, 1) := by decide +kernel
theorem dM_lower_15 : decode prog_11_method_27_code 15 = .ok (.getfield 37, 3) := by decide +kernel
theorem dM_lower_18 : decode prog_11_method_27_code 18 = .ok (.iload_n 1, 1) := by decide +kernel
theorem dM_lower_19 : decode prog_11_method_27_code 19 = .ok (.aload_n 0, 1) := by decide +kernel
theorem dM_lower_20 : decode prog_11_method_27_code 20 = .ok (.getfield 37, 3) := by decide +kernel
theorem dM_lower_23 : decode prog_11_method_27_code 23 = .ok (.iload_n 1, 1) := by decide +kernel
theorem dM_lower_24 : decode prog_11_method_27_code 24 = .ok (.iaload, 1) := by decide +kernel
theorem dM_lower_25 : decode prog_11_method_27_code 25 = .ok (.iload_n 2, 1) := by decide +kernel
theorem dM_lower_26 : decode prog_11_method_27_code 26 = .ok (.if_icmp .le (7), 3) := by decide +kernel
theorem dM_lower_29 : decode prog_11_method_27_code 29 = .ok (.iload_n 2, 1) := by decide +kernel
theorem dM_lower_30 : decode prog_11_method_27_code 30 = .ok (.goto (9), 3) := by decide +kernel
theorem dM_lower_33 : decode prog_11_method_27_code 33 = .ok (.aload_n 0, 1) := by decide +kernel
theorem dM_lower_34 : decode prog_11_method_27_code 34 = .ok (.getfield 37, 3) := by decide +kernel
theorem dM_lower_37 : decode prog_11_method_27_code 37 = .ok (.iload_n 1, 1) := by decide +kernel
theorem dM_lower_38 : decode prog_11_method_27_code 38 = .ok (.iaload, 1) := by decide +kernel
theorem dM_lower_39 : decode prog_11_method_27_code 39 = .ok (.iastore, 1) := by decide +kernel
theorem dM_lower_40 : decode prog_11_method_27_code 40 = .ok (.aload_n 0, 1) := by decide +kernel
theorem dM_lower_41 : decode prog_11_method_27_code 41 = .ok (.getfield 37, 3) := by decide +kernel
theorem dM_lower_44 : decode prog_11_method_27_code 44 = .ok (.iload_n 1, 1) := by decide +kernel
theorem dM_lower_45 : decode prog_11_method_27_code 45 = .ok (.iaload, 1) := by decide +kernel
theorem dM_lower_46 : decode prog_11_method_27_code 46 = .ok (.bipush (-6), 2) := by decide +kernel
theorem dM_lower_48 : decode prog_11_method_27_code 48 = .ok (.if_icmp .lt (7), 3) := by decide +kernel
theorem dM_lower_51 : decode prog_11_method_27_code 51 = .ok (.iconst 1, 1) := by decide +kernel
theorem dM_lower_52 : decode prog_11_method_27_code 52 = .ok (.goto (4), 3) := by decide +kernel
theorem dM_lower_55 : decode prog_11_method_27_code 55 = .ok (.iconst 0, 1) := by decide +kernel
theorem dM_lower_56 : decode prog_11_method_27_code 56 = .ok (.ireturn, 1) := by decide +kernel
theorem dM_lowerAll_0 : decode prog_11_method_28_code 0 = .ok (.iconst 1, 1) := by decide +kernel
theorem dM_lowerAll_1 : decode prog_11_method_28_code 1 = .ok (.istore_n 2, 1) := by decide +kernel
theorem dM_lowerAll_2 : decode prog_11_method_28_code 2 = .ok (.iconst 0, 1) := by decide +kernel
theorem dM_lowerAll_3 : decode prog_11_method_28_code 3 = .ok (.istore_n 3, 1) := by decide +kernel
theorem dM_lowerAll_4 : decode prog_11_method_28_code 4 = .ok (.iload_n 3, 1) := by decide +kernel
theorem dM_lowerAll_5 : decode prog_11_method_28_code 5 = .ok (.bipush (27), 2) := by decide +kernel
theorem dM_lowerAll_7 : decode prog_11_method_28_code 7 = .ok (.if_icmp .ge (99), 3) := by decide +kernel
theorem dM_lowerAll_10 : decode prog_11_method_28_code 10 = .ok (.aload_n 0, 1) := by decide +kernel
theorem dM_lowerAll_11 : decode prog_11_method_28_code 11 = .ok (.getfield 16, 3) := by decide +kernel
theorem dM_lowerAll_14 : decode prog_11_method_28_code 14 = .ok (.iload_n 3, 1) := by decide +kernel
theorem dM_lowerAll_15 : decode prog_11_method_28_code 15 = .ok (.iaload, 1) := by decide +kernel
theorem dM_lowerAll_16 : decode prog_11_method_28_code 16 = .ok (.ifCond .eq (84), 3) := by decide +kernel
theorem dM_lowerAll_19 : decode prog_11_method_28_code 19 = .ok (.iload_n 3, 1) := by decide +kernel
theorem dM_lowerAll_20 : decode prog_11_method_28_code 20 = .ok (.invokestatic 82, 3) := by decide +kernel
theorem dM_lowerAll_23 : decode prog_11_method_28_code 23 = .ok (.istore 4, 2) := by decide +kernel
theorem dM_lowerAll_25 : decode prog_11_method_28_code 25 = .ok (.iload_n 2, 1) := by decide +kernel
theorem dM_lowerAll_26 : decode prog_11_method_28_code 26 = .ok (.ifCond .eq (33), 3) := by decide +kernel
theorem dM_lowerAll_29 : decode prog_11_method_28_code 29 = .ok (.aload_n 0, 1) := by decide +kernel
theorem dM_lowerAll_30 : decode prog_11_method_28_code 30 = .ok (.aload_n 0, 1) := by decide +kernel
theorem dM_lowerAll_31 : decode prog_11_method_28_code 31 = .ok (.getfield 16, 3) := by decide +kernel
theorem dM_lowerAll_34 : decode prog_11_method_28_code 34 = .ok (.iload_n 3, 1) := by decide +kernel
theorem dM_lowerAll_35 : decode prog_11_method_28_code 35 = .ok (.iaload, 1) := by decide +kernel
theorem dM_lowerAll_36 : decode prog_11_method_28_code 36 = .ok (.aload_n 0, 1) := by decide +kernel
theorem dM_lowerAll_37 : decode prog_11_method_28_code 37 = .ok (.getfield 19, 3) := by decide +kernel
theorem dM_lowerAll_40 : decode prog_11_method_28_code 40 = .ok (.iload_n 3, 1) := by decide +kernel
theorem dM_lowerAll_41 : decode prog_11_method_28_code 41 = .ok (.iaload, 1) := by decide +kernel
theorem dM_lowerAll_42 : decode prog_11_method_28_code 42 = .ok (.aload_n 0, 1) := by decide +kernel
theorem dM_lowerAll_43 : decode prog_11_method_28_code 43 = .ok (.iload 4, 2) := by decide +kernel
theorem dM_lowerAll_45 : decode prog_11_method_28_code 45 = .ok (.invokevirtual 101, 3) := by decide +kernel
theorem dM_lowerAll_48 : decode prog_11_method_28_code 48 = .ok (.iadd, 1) := by decide +kernel
theorem dM_lowerAll_49 : decode prog_11_method_28_code 49 = .ok (.invokevirtual 104, 3) := by decide +kernel
theorem dM_lowerAll_52 : decode prog_11_method_28_code 52 = .ok (.ifCond .eq (7), 3) := by decide +kernel
theorem dM_lowerAll_55 : decode prog_11_method_28_code 55 = .ok (.iconst 1, 1) := by decide +kernel
theorem dM_lowerAll_56 : decode prog_11_method_28_code 56 = .ok (.goto (4), 3) := by decide +kernel
theorem dM_lowerAll_59 : decode prog_11_method_28_code 59 = .ok (.iconst 0, 1) := by decide +kernel
theorem dM_lowerAll_60 : decode prog_11_method_28_code 60 = .ok (.istore_n 2, 1) := by decide +kernel
theorem dM_lowerAll_61 : decode prog_11_method_28_code 61 = .ok (.iload_n 2, 1) := by decide +kernel
theorem dM_lowerAll_62 : decode prog_11_method_28_code 62 = .ok (.ifCond .eq (36), 3) := by decide +kernel
theorem dM_lowerAll_65 : decode prog_11_method_28_code 65 = .ok (.aload_n 0, 1) := by decide +kernel
theorem dM_lowerAll_66 : decode prog_11_method_28_code 66 = .ok (.iload 4, 2) := by decide +kernel
theorem dM_lowerAll_68 : decode prog_11_method_28_code 68 = .ok (.bipush (20), 2) := by decide +kernel
theorem dM_lowerAll_70 : decode prog_11_method_28_code 70 = .ok (.aload_n 0, 1) := by decide +kernel
theorem dM_lowerAll_71 : decode prog_11_method_28_code 71 = .ok (.getfield 19, 3) := by decide +kernel
theorem dM_lowerAll_74 : decode prog_11_method_28_code 74 = .ok (.iload_n 3, 1) := by decide +kernel
theorem dM_lowerAll_75 : decode prog_11_method_28_code 75 = .ok (.iaload, 1) := by decide +kernel
theorem dM_lowerAll_76 : decode prog_11_method_28_code 76 = .ok (.isub, 1) := by decide +kernel
theorem dM_lowerAll_77 : decode prog_11_method_28_code 77 = .ok (.aload_n 0, 1) := by decide +kernel
theorem dM_lowerAll_78 : decode prog_11_method_28_code 78 = .ok (.aload_n 0, 1) := by decide +kernel
theorem dM_lowerAll_79 : decode prog_11_method_28_code 79 = .ok (.getfield 16, 3) := by decide +kernel
theorem dM_lowerAll_82 : decode prog_11_method_28_code 82 = .ok (.iload_n 3, 1) := by decide +kernel
theorem dM_lowerAll_83 : decode prog_11_method_28_code 83 = .ok (.iaload, 1) := by decide +kernel
theorem dM_lowerAll_84 : decode prog_11_method_28_code 84 = .ok (.invokevirtual 101, 3) := by decide +kernel
theorem dM_lowerAll_87 : decode prog_11_method_28_code 87 = .ok (.iadd, 1) := by decide +kernel
theorem dM_lowerAll_88 : decode prog_11_method_28_code 88 = .ok (.invokevirtual 104, 3) := by decide +kernel
theorem dM_lowerAll_91 : decode prog_11_method_28_code 91 = .ok (.ifCond .eq (7), 3) := by decide +kernel
theorem dM_lowerAll_94 : decode prog_11_method_28_code 94 = .ok (.iconst 1, 1) := by decide +kernel
theorem dM_lowerAll_95 : decode prog_11_method_28_code 95 = .ok (.goto (4), 3) := by decide +kernel
theorem dM_lowerAll_98 : decode prog_11_method_28_code 98 = .ok (.iconst 0, 1) := by decide +kernel
theorem dM_lowerAll_99 : decode prog_11_method_28_code 99 = .ok (.istore_n 2, 1) := by decide +kernel
theorem dM_lowerAll_100 : decode prog_11_method_28_code 100 = .ok (.iinc 3 (1), 3) := by decide +kernel
theorem dM_lowerAll_103 : decode prog_11_method_28_code 103 = .ok (.goto (-99), 3) := by decide +kernel
theorem dM_lowerAll_106 : decode prog_11_method_28_code 106 = .ok (.iconst 1, 1) := by decide +kernel
theorem dM_lowerAll_107 : decode prog_11_method_28_code 107 = .ok (.istore_n 3, 1) := by decide +kernel
theorem dM_lowerAll_108 : decode prog_11_method_28_code 108 = .ok (.iload_n 3, 1) := by decide +kernel
theorem dM_lowerAll_109 : decode prog_11_method_28_code 109 = .ok (.aload_n 0, 1) := by decide +kernel
theorem dM_lowerAll_110 : decode prog_11_method_28_code 110 = .ok (.getfield 53, 3) := by decide +kernel
theorem dM_lowerAll_113 : decode prog_11_method_28_code 113 = .ok (.if_icmp .gt (98), 3) := by decide +kernel
theorem dM_lowerAll_116 : decode prog_11_method_28_code 116 = .ok (.iconst 1, 1) := by decide +kernel
theorem dM_lowerAll_117 : decode prog_11_method_28_code 117 = .ok (.istore 4, 2) := by decide +kernel
theorem dM_lowerAll_119 : decode prog_11_method_28_code 119 = .ok (.iload 4, 2) := by decide +kernel
theorem dM_lowerAll_121 : decode prog_11_method_28_code 121 = .ok (.aload_n 0, 1) := by decide +kernel
theorem dM_lowerAll_122 : decode prog_11_method_28_code 122 = .ok (.getfield 53, 3) := by decide +kernel
theorem dM_lowerAll_125 : decode prog_11_method_28_code 125 = .ok (.if_icmp .gt (80), 3) := by decide +kernel
theorem dM_lowerAll_128 : decode prog_11_method_28_code 128 = .ok (.aload_n 0, 1) := by decide +kernel
theorem dM_lowerAll_129 : decode prog_11_method_28_code 129 = .ok (.iload_n 3, 1) := by decide +kernel
theorem dM_lowerAll_130 : decode prog_11_method_28_code 130 = .ok (.iload 4, 2) := by decide +kernel
theorem dM_lowerAll_132 : decode prog_11_method_28_code 132 = .ok (.invokevirtual 85, 3) := by decide +kernel
theorem dM_lowerAll_135 : decode prog_11_method_28_code 135 = .ok (.sipush (1000), 3) := by decide +kernel
theorem dM_lowerAll_138 : decode prog_11_method_28_code 138 = .ok (.if_icmp .ge (18), 3) := by decide +kernel
theorem dM_lowerAll_141 : decode prog_11_method_28_code 141 = .ok (.aload_n 0, 1) := by decide +kernel
theorem dM_lowerAll_142 : decode prog_11_method_28_code 142 = .ok (.iload_n 3, 1) := by decide +kernel
theorem dM_lowerAll_143 : decode prog_11_method_28_code 143 = .ok (.iload 4, 2) := by decide +kernel
theorem dM_lowerAll_145 : decode prog_11_method_28_code 145 = .ok (.invokevirtual 98, 3) := by decide +kernel
theorem dM_lowerAll_148 : decode prog_11_method_28_code 148 = .ok (.iload_n 1, 1) := by decide +kernel
theorem dM_lowerAll_149 : decode prog_11_method_28_code 149 = .ok (.if_icmp .le (7), 3) := by decide +kernel
theorem dM_lowerAll_152 : decode prog_11_method_28_code 152 = .ok (.iconst 1, 1) := by decide +kernel
theorem dM_lowerAll_153 : decode prog_11_method_28_code 153 = .ok (.goto (4), 3) := by decide +kernel
theorem dM_lowerAll_156 : decode prog_11_method_28_code 156 = .ok (.iconst 0, 1) := by decide +kernel
theorem dM_lowerAll_157 : decode prog_11_method_28_code 157 = .ok (.istore 5, 2) := by decide +kernel
theorem dM_lowerAll_159 : decode prog_11_method_28_code 159 = .ok (.iload_n 2, 1) := by decide +kernel
theorem dM_lowerAll_160 : decode prog_11_method_28_code 160 = .ok (.ifCond .eq (37), 3) := by decide +kernel
theorem dM_lowerAll_163 : decode prog_11_method_28_code 163 = .ok (.iload 5, 2) := by decide +kernel
theorem dM_lowerAll_165 : decode prog_11_method_28_code 165 = .ok (.ifCond .eq (28), 3) := by decide +kernel
theorem dM_lowerAll_168 : decode prog_11_method_28_code 168 = .ok (.aload_n 0, 1) := by decide +kernel
theorem dM_lowerAll_169 : decode prog_11_method_28_code 169 = .ok (.iload_n 3, 1) := by decide +kernel
theorem dM_lowerAll_170 : decode prog_11_method_28_code 170 = .ok (.aload_n 0, 1) := by decide +kernel
theorem dM_lowerAll_171 : decode prog_11_method_28_code 171 = .ok (.iload_n 3, 1) := by decide +kernel
theorem dM_lowerAll_172 : decode prog_11_method_28_code 172 = .ok (.iload 4, 2) := by decide +kernel
theorem dM_lowerAll_174 : decode prog_11_method_28_code 174 = .ok (.invokevirtual 85, 3) := by decide +kernel
theorem dM_lowerAll_177 : decode prog_11_method_28_code 177 = .ok (.aload_n 0, 1) := by decide +kernel
theorem dM_lowerAll_178 : decode prog_11_method_28_code 178 = .ok (.getfield 37, 3) := by decide +kernel
theorem dM_lowerAll_181 : decode prog_11_method_28_code 181 = .ok (.iload 4, 2) := by decide +kernel
theorem dM_lowerAll_183 : decode prog_11_method_28_code 183 = .ok (.iaload, 1) := by decide +kernel
theorem dM_lowerAll_184 : decode prog_11_method_28_code 184 = .ok (.iadd, 1) := by decide +kernel
theorem dM_lowerAll_185 : decode prog_11_method_28_code 185 = .ok (.iconst 1, 1) := by decide +kernel
theorem dM_lowerAll_186 : decode prog_11_method_28_code 186 = .ok (.isub, 1) := by decide +kernel
theorem dM_lowerAll_187 : decode prog_11_method_28_code 187 = .ok (.invokevirtual 104, 3) := by decide +kernel
theorem dM_lowerAll_190 : decode prog_11_method_28_code 190 = .ok (.ifCond .eq (7), 3) := by decide +kernel
theorem dM_lowerAll_193 : decode prog_11_method_28_code 193 = .ok (.iconst 1, 1) := by decide +kernel
theorem dM_lowerAll_194 : decode prog_11_method_28_code 194 = .ok (.goto (4), 3) := by decide +kernel
theorem dM_lowerAll_197 : decode prog_11_method_28_code 197 = .ok (.iconst 0, 1) := by decide +kernel
theorem dM_lowerAll_198 : decode prog_11_method_28_code 198 = .ok (.istore_n 2, 1) := by decide +kernel
theorem dM_lowerAll_199 : decode prog_11_method_28_code 199 = .ok (.iinc 4 (1), 3) := by decide +kernel
theorem dM_lowerAll_202 : decode prog_11_method_28_code 202 = .ok (.goto (-83), 3) := by decide +kernel
theorem dM_lowerAll_205 : decode prog_11_method_28_code 205 = .ok (.iinc 3 (1), 3) := by decide +kernel
theorem dM_lowerAll_208 : decode prog_11_method_28_code 208 = .ok (.goto (-100), 3) := by decide +kernel
theorem dM_lowerAll_211 : decode prog_11_method_28_code 211 = .ok (.iload_n 2, 1) := by decide +kernel
theorem dM_lowerAll_212 : decode prog_11_method_28_code 212 = .ok (.ireturn, 1) := by decide +kernel
theorem dM_find_0 : decode prog_11_method_29_code 0 = .ok (.iconst 1, 1) := by decide +kernel
theorem dM_find_1 : decode prog_11_method_29_code 1 = .ok (.istore_n 3, 1) := by decide +kernel
theorem dM_find_2 : decode prog_11_method_29_code 2 = .ok (.iload_n 3, 1) := by decide +kernel
theorem dM_find_3 : decode prog_11_method_29_code 3 = .ok (.aload_n 0, 1) := by decide +kernel
theorem dM_find_4 : decode prog_11_method_29_code 4 = .ok (.getfield 53, 3) := by decide +kernel
theorem dM_find_7 : decode prog_11_method_29_code 7 = .ok (.if_icmp .gt (16), 3) := by decide +kernel
theorem dM_find_10 : decode prog_11_method_29_code 10 = .ok (.aload_n 0, 1) := by decide +kernel
theorem dM_find_11 : decode prog_11_method_29_code 11 = .ok (.getfield 37, 3) := by decide +kernel
theorem dM_find_14 : decode prog_11_method_29_code 14 = .ok (.iload_n 3, 1) := by decide +kernel
theorem dM_find_15 : decode prog_11_method_29_code 15 = .ok (.iload_n 2, 1) := by decide +kernel
theorem dM_find_16 : decode prog_11_method_29_code 16 = .ok (.iastore, 1) := by decide +kernel
theorem dM_find_17 : decode prog_11_method_29_code 17 = .ok (.iinc 3 (1), 3) := by decide +kernel
theorem dM_find_20 : decode prog_11_method_29_code 20 = .ok (.goto (-18), 3) := by decide +kernel
theorem dM_find_23 : decode prog_11_method_29_code 23 = .ok (.sipush (1000), 3) := by decide +kernel
theorem dM_find_26 : decode prog_11_method_29_code 26 = .ok (.istore_n 3, 1) := by decide +kernel
theorem dM_find_27 : decode prog_11_method_29_code 27 = .ok (.bipush (12), 2) := by decide +kernel
theorem dM_find_29 : decode prog_11_method_29_code 29 = .ok (.iload_n 2, 1) := by decide +kernel
theorem dM_find_30 : decode prog_11_method_29_code 30 = .ok (.imul, 1) := by decide +kernel
theorem dM_find_31 : decode prog_11_method_29_code 31 = .ok (.istore 4, 2) := by decide +kernel
theorem dM_find_33 : decode prog_11_method_29_code 33 = .ok (.iconst 1, 1) := by decide +kernel
theorem dM_find_34 : decode prog_11_method_29_code 34 = .ok (.istore 5, 2) := by decide +kernel
theorem dM_find_36 : decode prog_11_method_29_code 36 = .ok (.iload 5, 2) := by decide +kernel
theorem dM_find_38 : decode prog_11_method_29_code 38 = .ok (.ifCond .eq (55), 3) := by decide +kernel
theorem dM_find_41 : decode prog_11_method_29_code 41 = .ok (.iload 4, 2) := by decide +kernel
theorem dM_find_43 : decode prog_11_method_29_code 43 = .ok (.iload_n 3, 1) := by decide +kernel
theorem dM_find_44 : decode prog_11_method_29_code 44 = .ok (.if_icmp .eq (49), 3) := by decide +kernel
theorem dM_find_47 : decode prog_11_method_29_code 47 = .ok (.iload 4, 2) := by decide +kernel
theorem dM_find_49 : decode prog_11_method_29_code 49 = .ok (.istore_n 3, 1) := by decide +kernel
theorem dM_find_50 : decode prog_11_method_29_code 50 = .ok (.aload_n 0, 1) := by decide +kernel
theorem dM_find_51 : decode prog_11_method_29_code 51 = .ok (.iload_n 1, 1) := by decide +kernel
theorem dM_find_52 : decode prog_11_method_29_code 52 = .ok (.invokevirtual 107, 3) := by decide +kernel
theorem dM_find_55 : decode prog_11_method_29_code 55 = .ok (.istore 5, 2) := by decide +kernel
theorem dM_find_57 : decode prog_11_method_29_code 57 = .ok (.iconst 0, 1) := by decide +kernel
theorem dM_find_58 : decode prog_11_method_29_code 58 = .ok (.istore 4, 2) := by decide +kernel
theorem dM_find_60 : decode prog_11_method_29_code 60 = .ok (.iconst 1, 1) := by decide +kernel
theorem dM_find_61 : decode prog_11_method_29_code 61 = .ok (.istore 6, 2) := by decide +kernel
theorem dM_find_63 : decode prog_11_method_29_code 63 = .ok (.iload 6, 2) := by decide +kernel
theorem dM_find_65 : decode prog_11_method_29_code 65 = .ok (.aload_n 0, 1) := by decide +kernel
theorem dM_find_66 : decode prog_11_method_29_code 66 = .ok (.getfield 53, 3) := by decide +kernel
theorem dM_find_69 : decode prog_11_method_29_code 69 = .ok (.if_icmp .gt (21), 3) := by decide +kernel
theorem dM_find_72 : decode prog_11_method_29_code 72 = .ok (.iload 4, 2) := by decide +kernel
theorem dM_find_74 : decode prog_11_method_29_code 74 = .ok (.aload_n 0, 1) := by decide +kernel
theorem dM_find_75 : decode prog_11_method_29_code 75 = .ok (.getfield 37, 3) := by decide +kernel
theorem dM_find_78 : decode prog_11_method_29_code 78 = .ok (.iload 6, 2) := by decide +kernel
theorem dM_find_80 : decode prog_11_method_29_code 80 = .ok (.iaload, 1) := by decide +kernel
theorem dM_find_81 : decode prog_11_method_29_code 81 = .ok (.iadd, 1) := by decide +kernel
theorem dM_find_82 : decode prog_11_method_29_code 82 = .ok (.istore 4, 2) := by decide +kernel
theorem dM_find_84 : decode prog_11_method_29_code 84 = .ok (.iinc 6 (1), 3) := by decide +kernel
theorem dM_find_87 : decode prog_11_method_29_code 87 = .ok (.goto (-24), 3) := by decide +kernel
theorem dM_find_90 : decode prog_11_method_29_code 90 = .ok (.goto (-54), 3) := by decide +kernel
theorem dM_find_93 : decode prog_11_method_29_code 93 = .ok (.iload 5, 2) := by decide +kernel
theorem dM_find_95 : decode prog_11_method_29_code 95 = .ok (.ireturn, 1) := by decide +kernel
theorem dM_least_0 : decode prog_11_method_30_code 0 = .ok (.aload_n 0, 1) := by decide +kernel
theorem dM_least_1 : decode prog_11_method_30_code 1 = .ok (.aload_n 0, 1) := by decide +kernel
theorem dM_least_2 : decode prog_11_method_30_code 2 = .ok (.invokevirtual 92, 3) := by decide +kernel
theorem dM_least_5 : decode prog_11_method_30_code 5 = .ok (.ifCond .eq (7), 3) := by decide +kernel
theorem dM_least_8 : decode prog_11_method_30_code 8 = .ok (.iconst 0, 1) := by decide +kernel
theorem dM_least_9 : decode prog_11_method_30_code 9 = .ok (.goto (4), 3) := by decide +kernel
theorem dM_least_12 : decode prog_11_method_30_code 12 = .ok (.iconst 1, 1) := by decide +kernel
theorem dM_least_13 : decode prog_11_method_30_code 13 = .ok (.putfield 49, 3) := by decide +kernel
theorem dM_least_16 : decode prog_11_method_30_code 16 = .ok (.aload_n 0, 1) := by decide +kernel
theorem dM_least_17 : decode prog_11_method_30_code 17 = .ok (.getfield 49, 3) := by decide +kernel
theorem dM_least_20 : decode prog_11_method_30_code 20 = .ok (.ifCond .eq (5), 3) := by decide +kernel
theorem dM_least_23 : decode prog_11_method_30_code 23 = .ok (.iconst 0, 1) := by decide +kernel
theorem dM_least_24 : decode prog_11_method_30_code 24 = .ok (.ireturn, 1) := by decide +kernel
theorem dM_least_25 : decode prog_11_method_30_code 25 = .ok (.aload_n 0, 1) := by decide +kernel
theorem dM_least_26 : decode prog_11_method_30_code 26 = .ok (.invokevirtual 95, 3) := by decide +kernel
theorem dM_least_29 : decode prog_11_method_30_code 29 = .ok (.iconst 0, 1) := by decide +kernel
theorem dM_least_30 : decode prog_11_method_30_code 30 = .ok (.istore_n 1, 1) := by decide +kernel
theorem dM_least_31 : decode prog_11_method_30_code 31 = .ok (.sipush (600), 3) := by decide +kernel
theorem dM_least_34 : decode prog_11_method_30_code 34 = .ok (.istore_n 2, 1) := by decide +kernel
theorem dM_least_35 : decode prog_11_method_30_code 35 = .ok (.iload_n 1, 1) := by decide +kernel
theorem dM_least_36 : decode prog_11_method_30_code 36 = .ok (.iload_n 2, 1) := by decide +kernel
theorem dM_least_37 : decode prog_11_method_30_code 37 = .ok (.if_icmp .ge (31), 3) := by decide +kernel
theorem dM_least_40 : decode prog_11_method_30_code 40 = .ok (.iload_n 1, 1) := by decide +kernel
theorem dM_least_41 : decode prog_11_method_30_code 41 = .ok (.iload_n 2, 1) := by decide +kernel
theorem dM_least_42 : decode prog_11_method_30_code 42 = .ok (.iadd, 1) := by decide +kernel
theorem dM_least_43 : decode prog_11_method_30_code 43 = .ok (.iconst 2, 1) := by decide +kernel
theorem dM_least_44 : decode prog_11_method_30_code 44 = .ok (.idiv, 1) := by decide +kernel
theorem dM_least_45 : decode prog_11_method_30_code 45 = .ok (.istore_n 3, 1) := by decide +kernel
theorem dM_least_46 : decode prog_11_method_30_code 46 = .ok (.aload_n 0, 1) := by decide +kernel
theorem dM_least_47 : decode prog_11_method_30_code 47 = .ok (.iload_n 3, 1) := by decide +kernel
theorem dM_least_48 : decode prog_11_method_30_code 48 = .ok (.bipush (6), 2) := by decide +kernel
theorem dM_least_50 : decode prog_11_method_30_code 50 = .ok (.invokevirtual 110, 3) := by decide +kernel
theorem dM_least_53 : decode prog_11_method_30_code 53 = .ok (.ifCond .eq (8), 3) := by decide +kernel
theorem dM_least_56 : decode prog_11_method_30_code 56 = .ok (.iload_n 3, 1) := by decide +kernel
theorem dM_least_57 : decode prog_11_method_30_code 57 = .ok (.istore_n 2, 1) := by decide +kernel
theorem dM_least_58 : decode prog_11_method_30_code 58 = .ok (.goto (7), 3) := by decide +kernel
theorem dM_least_61 : decode prog_11_method_30_code 61 = .ok (.iload_n 3, 1) := by decide +kernel
theorem dM_least_62 : decode prog_11_method_30_code 62 = .ok (.iconst 1, 1) := by decide +kernel
theorem dM_least_63 : decode prog_11_method_30_code 63 = .ok (.iadd, 1) := by decide +kernel
theorem dM_least_64 : decode prog_11_method_30_code 64 = .ok (.istore_n 1, 1) := by decide +kernel
theorem dM_least_65 : decode prog_11_method_30_code 65 = .ok (.goto (-30), 3) := by decide +kernel
theorem dM_least_68 : decode prog_11_method_30_code 68 = .ok (.iload_n 1, 1) := by decide +kernel
theorem dM_least_69 : decode prog_11_method_30_code 69 = .ok (.ireturn, 1) := by decide +kernel
theorem dM_shared_0 : decode prog_11_method_31_code 0 = .ok (.aload_n 0, 1) := by decide +kernel
theorem dM_shared_1 : decode prog_11_method_31_code 1 = .ok (.aload_n 0, 1) := by decide +kernel
theorem dM_shared_2 : decode prog_11_method_31_code 2 = .ok (.invokevirtual 92, 3) := by decide +kernel
theorem dM_shared_5 : decode prog_11_method_31_code 5 = .ok (.ifCond .eq (7), 3) := by decide +kernel
theorem dM_shared_8 : decode prog_11_method_31_code 8 = .ok (.iconst 0, 1) := by decide +kernel
theorem dM_shared_9 : decode prog_11_method_31_code 9 = .ok (.goto (4), 3) := by decide +kernel
theorem dM_shared_12 : decode prog_11_method_31_code 12 = .ok (.iconst 1, 1) := by decide +kernel
theorem dM_shared_13 : decode prog_11_method_31_code 13 = .ok (.putfield 49, 3) := by decide +kernel
theorem dM_shared_16 : decode prog_11_method_31_code 16 = .ok (.iconst 0, 1) := by decide +kernel
theorem dM_shared_17 : decode prog_11_method_31_code 17 = .ok (.istore_n 1, 1) := by decide +kernel
theorem dM_shared_18 : decode prog_11_method_31_code 18 = .ok (.bipush (-3), 2) := by decide +kernel
theorem dM_shared_20 : decode prog_11_method_31_code 20 = .ok (.istore_n 2, 1) := by decide +kernel
theorem dM_shared_21 : decode prog_11_method_31_code 21 = .ok (.iload_n 2, 1) := by decide +kernel
theorem dM_shared_22 : decode prog_11_method_31_code 22 = .ok (.aload_n 0, 1) := by decide +kernel
theorem dM_shared_23 : decode prog_11_method_31_code 23 = .ok (.getfield 53, 3) := by decide +kernel
theorem dM_shared_26 : decode prog_11_method_31_code 26 = .ok (.if_icmp .gt (76), 3) := by decide +kernel
theorem dM_shared_29 : decode prog_11_method_31_code 29 = .ok (.aload_n 0, 1) := by decide +kernel
theorem dM_shared_30 : decode prog_11_method_31_code 30 = .ok (.getfield 49, 3) := by decide +kernel
theorem dM_shared_33 : decode prog_11_method_31_code 33 = .ok (.ifCond .ne (69), 3) := by decide +kernel
theorem dM_shared_36 : decode prog_11_method_31_code 36 = .ok (.iconst 0, 1) := by decide +kernel
theorem dM_shared_37 : decode prog_11_method_31_code 37 = .ok (.istore_n 3, 1) := by decide +kernel
theorem dM_shared_38 : decode prog_11_method_31_code 38 = .ok (.iconst 0, 1) := by decide +kernel
theorem dM_shared_39 : decode prog_11_method_31_code 39 = .ok (.istore 4, 2) := by decide +kernel
theorem dM_shared_41 : decode prog_11_method_31_code 41 = .ok (.iload 4, 2) := by decide +kernel
theorem dM_shared_43 : decode prog_11_method_31_code 43 = .ok (.bipush (27), 2) := by decide +kernel
theorem dM_shared_45 : decode prog_11_method_31_code 45 = .ok (.if_icmp .ge (47), 3) := by decide +kernel
theorem dM_shared_48 : decode prog_11_method_31_code 48 = .ok (.iload_n 2, 1) := by decide +kernel
theorem dM_shared_49 : decode prog_11_method_31_code 49 = .ok (.ifCond .eq (35), 3) := by decide +kernel
theorem dM_shared_52 : decode prog_11_method_31_code 52 = .ok (.aload_n 0, 1) := by decide +kernel
theorem dM_shared_53 : decode prog_11_method_31_code 53 = .ok (.getfield 16, 3) := by decide +kernel
theorem dM_shared_56 : decode prog_11_method_31_code 56 = .ok (.iload 4, 2) := by decide +kernel
theorem dM_shared_58 : decode prog_11_method_31_code 58 = .ok (.iaload, 1) := by decide +kernel
theorem dM_shared_59 : decode prog_11_method_31_code 59 = .ok (.iload_n 2, 1) := by decide +kernel
theorem dM_shared_60 : decode prog_11_method_31_code 60 = .ok (.if_icmp .ne (24), 3) := by decide +kernel
theorem dM_shared_63 : decode prog_11_method_31_code 63 = .ok (.aload_n 0, 1) := by decide +kernel
theorem dM_shared_64 : decode prog_11_method_31_code 64 = .ok (.getfield 19, 3) := by decide +kernel
theorem dM_shared_67 : decode prog_11_method_31_code 67 = .ok (.iload 4, 2) := by decide +kernel
theorem dM_shared_69 : decode prog_11_method_31_code 69 = .ok (.iaload, 1) := by decide +kernel
theorem dM_shared_70 : decode prog_11_method_31_code 70 = .ok (.iload_n 3, 1) := by decide +kernel
theorem dM_shared_71 : decode prog_11_method_31_code 71 = .ok (.if_icmp .le (13), 3) := by decide +kernel
theorem dM_shared_74 : decode prog_11_method_31_code 74 = .ok (.aload_n 0, 1) := by decide +kernel
theorem dM_shared_75 : decode prog_11_method_31_code 75 = .ok (.getfield 19, 3) := by decide +kernel
theorem dM_shared_78 : decode prog_11_method_31_code 78 = .ok (.iload 4, 2) := by decide +kernel
theorem dM_shared_80 : decode prog_11_method_31_code 80 = .ok (.iaload, 1) := by decide +kernel
theorem dM_shared_81 : decode prog_11_method_31_code 81 = .ok (.goto (4), 3) := by decide +kernel
theorem dM_shared_84 : decode prog_11_method_31_code 84 = .ok (.iload_n 3, 1) := by decide +kernel
theorem dM_shared_85 : decode prog_11_method_31_code 85 = .ok (.istore_n 3, 1) := by decide +kernel
theorem dM_shared_86 : decode prog_11_method_31_code 86 = .ok (.iinc 4 (1), 3) := by decide +kernel
theorem dM_shared_89 : decode prog_11_method_31_code 89 = .ok (.goto (-48), 3) := by decide +kernel
theorem dM_shared_92 : decode prog_11_method_31_code 92 = .ok (.iload_n 1, 1) := by decide +kernel
theorem dM_shared_93 : decode prog_11_method_31_code 93 = .ok (.iload_n 3, 1) := by decide +kernel
theorem dM_shared_94 : decode prog_11_method_31_code 94 = .ok (.iadd, 1) := by decide +kernel
theorem dM_shared_95 : decode prog_11_method_31_code 95 = .ok (.istore_n 1, 1) := by decide +kernel
theorem dM_shared_96 : decode prog_11_method_31_code 96 = .ok (.iinc 2 (1), 3) := by decide +kernel
theorem dM_shared_99 : decode prog_11_method_31_code 99 = .ok (.goto (-78), 3) := by decide +kernel
theorem dM_shared_102 : decode prog_11_method_31_code 102 = .ok (.iload_n 1, 1) := by decide +kernel
theorem dM_shared_103 : decode prog_11_method_31_code 103 = .ok (.ireturn, 1) := by decide +kernel
theorem dM_made_0 : decode prog_11_method_32_code 0 = .ok (.iload_n 0, 1) := by decide +kernel
theorem dM_made_1 : decode prog_11_method_32_code 1 = .ok (.tableswitch (102) 0 3 #[31, 33, 46, 74], 31) := by decide +kernel
theorem dM_made_32 : decode prog_11_method_32_code 32 = .ok (.iload_n 1, 1) := by decide +kernel
theorem dM_made_33 : decode prog_11_method_32_code 33 = .ok (.ireturn, 1) := by decide +kernel
theorem dM_made_34 : decode prog_11_method_32_code 34 = .ok (.iload_n 1, 1) := by decide +kernel
theorem dM_made_35 : decode prog_11_method_32_code 35 = .ok (.iconst 2, 1) := by decide +kernel
theorem dM_made_36 : decode prog_11_method_32_code 36 = .ok (.if_icmp .ne (7), 3) := by decide +kernel
theorem dM_made_39 : decode prog_11_method_32_code 39 = .ok (.iconst 2, 1) := by decide +kernel
theorem dM_made_40 : decode prog_11_method_32_code 40 = .ok (.goto (6), 3) := by decide +kernel
theorem dM_made_43 : decode prog_11_method_32_code 43 = .ok (.iconst 1, 1) := by decide +kernel
theorem dM_made_44 : decode prog_11_method_32_code 44 = .ok (.iload_n 1, 1) := by decide +kernel
theorem dM_made_45 : decode prog_11_method_32_code 45 = .ok (.isub, 1) := by decide +kernel
theorem dM_made_46 : decode prog_11_method_32_code 46 = .ok (.ireturn, 1) := by decide +kernel
theorem dM_made_47 : decode prog_11_method_32_code 47 = .ok (.iload_n 1, 1) := by decide +kernel
theorem dM_made_48 : decode prog_11_method_32_code 48 = .ok (.ifCond .eq (7), 3) := by decide +kernel
theorem dM_made_51 : decode prog_11_method_32_code 51 = .ok (.iload_n 2, 1) := by decide +kernel
theorem dM_made_52 : decode prog_11_method_32_code 52 = .ok (.ifCond .ne (7), 3) := by decide +kernel
theorem dM_made_55 : decode prog_11_method_32_code 55 = .ok (.iconst 0, 1) := by decide +kernel
theorem dM_made_56 : decode prog_11_method_32_code 56 = .ok (.goto (18), 3) := by decide +kernel
theorem dM_made_59 : decode prog_11_method_32_code 59 = .ok (.iload_n 1, 1) := by decide +kernel
theorem dM_made_60 : decode prog_11_method_32_code 60 = .ok (.iconst 1, 1) := by decide +kernel
theorem dM_made_61 : decode prog_11_method_32_code 61 = .ok (.if_icmp .ne (12), 3) := by decide +kernel
theorem dM_made_64 : decode prog_11_method_32_code 64 = .ok (.iload_n 2, 1) := by decide +kernel
theorem dM_made_65 : decode prog_11_method_32_code 65 = .ok (.iconst 1, 1) := by decide +kernel
theorem dM_made_66 : decode prog_11_method_32_code 66 = .ok (.if_icmp .ne (7), 3) := by decide +kernel
theorem dM_made_69 : decode prog_11_method_32_code 69 = .ok (.iconst 1, 1) := by decide +kernel
theorem dM_made_70 : decode prog_11_method_32_code 70 = .ok (.goto (4), 3) := by decide +kernel
theorem dM_made_73 : decode prog_11_method_32_code 73 = .ok (.iconst 2, 1) := by decide +kernel
theorem dM_made_74 : decode prog_11_method_32_code 74 = .ok (.ireturn, 1) := by decide +kernel
theorem dM_made_75 : decode prog_11_method_32_code 75 = .ok (.iload_n 1, 1) := by decide +kernel
theorem dM_made_76 : decode prog_11_method_32_code 76 = .ok (.iconst 1, 1) := by decide +kernel
theorem dM_made_77 : decode prog_11_method_32_code 77 = .ok (.if_icmp .eq (8), 3) := by decide +kernel
theorem dM_made_80 : decode prog_11_method_32_code 80 = .ok (.iload_n 2, 1) := by decide +kernel
theorem dM_made_81 : decode prog_11_method_32_code 81 = .ok (.iconst 1, 1) := by decide +kernel
theorem dM_made_82 : decode prog_11_method_32_code 82 = .ok (.if_icmp .ne (7), 3) := by decide +kernel
theorem dM_made_85 : decode prog_11_method_32_code 85 = .ok (.iconst 1, 1) := by decide +kernel
theorem dM_made_86 : decode prog_11_method_32_code 86 = .ok (.goto (16), 3) := by decide +kernel
theorem dM_made_89 : decode prog_11_method_32_code 89 = .ok (.iload_n 1, 1) := by decide +kernel
theorem dM_made_90 : decode prog_11_method_32_code 90 = .ok (.ifCond .ne (11), 3) := by decide +kernel
theorem dM_made_93 : decode prog_11_method_32_code 93 = .ok (.iload_n 2, 1) := by decide +kernel
theorem dM_made_94 : decode prog_11_method_32_code 94 = .ok (.ifCond .ne (7), 3) := by decide +kernel
theorem dM_made_97 : decode prog_11_method_32_code 97 = .ok (.iconst 0, 1) := by decide +kernel
theorem dM_made_98 : decode prog_11_method_32_code 98 = .ok (.goto (4), 3) := by decide +kernel
theorem dM_made_101 : decode prog_11_method_32_code 101 = .ok (.iconst 2, 1) := by decide +kernel
theorem dM_made_102 : decode prog_11_method_32_code 102 = .ok (.ireturn, 1) := by decide +kernel
theorem dM_made_103 : decode prog_11_method_32_code 103 = .ok (.iload_n 1, 1) := by decide +kernel
theorem dM_made_104 : decode prog_11_method_32_code 104 = .ok (.iconst 2, 1) := by decide +kernel
theorem dM_made_105 : decode prog_11_method_32_code 105 = .ok (.if_icmp .eq (8), 3) := by decide +kernel
theorem dM_made_108 : decode prog_11_method_32_code 108 = .ok (.iload_n 2, 1) := by decide +kernel
theorem dM_made_109 : decode prog_11_method_32_code 109 = .ok (.iconst 2, 1) := by decide +kernel
theorem dM_made_110 : decode prog_11_method_32_code 110 = .ok (.if_icmp .ne (7), 3) := by decide +kernel
theorem dM_made_113 : decode prog_11_method_32_code 113 = .ok (.iconst 2, 1) := by decide +kernel
theorem dM_made_114 : decode prog_11_method_32_code 114 = .ok (.goto (13), 3) := by decide +kernel
theorem dM_made_117 : decode prog_11_method_32_code 117 = .ok (.iload_n 1, 1) := by decide +kernel
theorem dM_made_118 : decode prog_11_method_32_code 118 = .ok (.iload_n 2, 1) := by decide +kernel
theorem dM_made_119 : decode prog_11_method_32_code 119 = .ok (.if_icmp .ne (7), 3) := by decide +kernel
theorem dM_made_122 : decode prog_11_method_32_code 122 = .ok (.iconst 0, 1) := by decide +kernel
theorem dM_made_123 : decode prog_11_method_32_code 123 = .ok (.goto (4), 3) := by decide +kernel
theorem dM_made_126 : decode prog_11_method_32_code 126 = .ok (.iconst 1, 1) := by decide +kernel
theorem dM_made_127 : decode prog_11_method_32_code 127 = .ok (.ireturn, 1) := by decide +kernel
theorem dM_push_0 : decode prog_11_method_33_code 0 = .ok (.aload_n 0, 1) := by decide +kernel
theorem dM_push_1 : decode prog_11_method_33_code 1 = .ok (.getfield 31, 3) := by decide +kernel
theorem dM_push_4 : decode prog_11_method_33_code 4 = .ok (.iload_n 1, 1) := by decide +kernel
theorem dM_push_5 : decode prog_11_method_33_code 5 = .ok (.iaload, 1) := by decide +kernel
theorem dM_push_6 : decode prog_11_method_33_code 6 = .ok (.istore_n 3, 1) := by decide +kernel
theorem dM_push_7 : decode prog_11_method_33_code 7 = .ok (.iload_n 3, 1) := by decide +kernel
theorem dM_push_8 : decode prog_11_method_33_code 8 = .ok (.ifCond .le (33), 3) := by decide +kernel
theorem dM_push_11 : decode prog_11_method_33_code 11 = .ok (.aload_n 0, 1) := by decide +kernel
theorem dM_push_12 : decode prog_11_method_33_code 12 = .ok (.getfield 28, 3) := by decide +kernel
theorem dM_push_15 : decode prog_11_method_33_code 15 = .ok (.bipush (40), 2) := by decide +kernel
theorem dM_push_17 : decode prog_11_method_33_code 17 = .ok (.iload_n 1, 1) := by decide +kernel
theorem dM_push_18 : decode prog_11_method_33_code 18 = .ok (.imul, 1) := by decide +kernel
theorem dM_push_19 : decode prog_11_method_33_code 19 = .ok (.iload_n 3, 1) := by decide +kernel
theorem dM_push_20 : decode prog_11_method_33_code 20 = .ok (.iadd, 1) := by decide +kernel
theorem dM_push_21 : decode prog_11_method_33_code 21 = .ok (.aload_n 0, 1) := by decide +kernel
theorem dM_push_22 : decode prog_11_method_33_code 22 = .ok (.getfield 28, 3) := by decide +kernel
theorem dM_push_25 : decode prog_11_method_33_code 25 = .ok (.bipush (40), 2) := by decide +kernel
theorem dM_push_27 : decode prog_11_method_33_code 27 = .ok (.iload_n 1, 1) := by decide +kernel
theorem dM_push_28 : decode prog_11_method_33_code 28 = .ok (.imul, 1) := by decide +kernel
theorem dM_push_29 : decode prog_11_method_33_code 29 = .ok (.iload_n 3, 1) := by decide +kernel
theorem dM_push_30 : decode prog_11_method_33_code 30 = .ok (.iadd, 1) := by decide +kernel
theorem dM_push_31 : decode prog_11_method_33_code 31 = .ok (.iconst 1, 1) := by decide +kernel
theorem dM_push_32 : decode prog_11_method_33_code 32 = .ok (.isub, 1) := by decide +kernel
theorem dM_push_33 : decode prog_11_method_33_code 33 = .ok (.iaload, 1) := by decide +kernel
theorem dM_push_34 : decode prog_11_method_33_code 34 = .ok (.iastore, 1) := by decide +kernel
theorem dM_push_35 : decode prog_11_method_33_code 35 = .ok (.iinc 3 (-1), 3) := by decide +kernel
theorem dM_push_38 : decode prog_11_method_33_code 38 = .ok (.goto (-31), 3) := by decide +kernel
theorem dM_push_41 : decode prog_11_method_33_code 41 = .ok (.aload_n 0, 1) := by decide +kernel
theorem dM_push_42 : decode prog_11_method_33_code 42 = .ok (.getfield 28, 3) := by decide +kernel
theorem dM_push_45 : decode prog_11_method_33_code 45 = .ok (.bipush (40), 2) := by decide +kernel
theorem dM_push_47 : decode prog_11_method_33_code 47 = .ok (.iload_n 1, 1) := by decide +kernel
theorem dM_push_48 : decode prog_11_method_33_code 48 = .ok (.imul, 1) := by decide +kernel
theorem dM_push_49 : decode prog_11_method_33_code 49 = .ok (.iload_n 2, 1) := by decide +kernel
theorem dM_push_50 : decode prog_11_method_33_code 50 = .ok (.iastore, 1) := by decide +kernel
theorem dM_push_51 : decode prog_11_method_33_code 51 = .ok (.aload_n 0, 1) := by decide +kernel
theorem dM_push_52 : decode prog_11_method_33_code 52 = .ok (.getfield 31, 3) := by decide +kernel
theorem dM_push_55 : decode prog_11_method_33_code 55 = .ok (.iload_n 1, 1) := by decide +kernel
theorem dM_push_56 : decode prog_11_method_33_code 56 = .ok (.dup2, 1) := by decide +kernel
theorem dM_push_57 : decode prog_11_method_33_code 57 = .ok (.iaload, 1) := by decide +kernel
theorem dM_push_58 : decode prog_11_method_33_code 58 = .ok (.iconst 1, 1) := by decide +kernel
theorem dM_push_59 : decode prog_11_method_33_code 59 = .ok (.iadd, 1) := by decide +kernel
theorem dM_push_60 : decode prog_11_method_33_code 60 = .ok (.iastore, 1) := by decide +kernel
theorem dM_push_61 : decode prog_11_method_33_code 61 = .ok (.return_, 1) := by decide +kernel
theorem dM_pull_0 : decode prog_11_method_34_code 0 = .ok (.aload_n 0, 1) := by decide +kernel
theorem dM_pull_1 : decode prog_11_method_34_code 1 = .ok (.getfield 28, 3) := by decide +kernel
theorem dM_pull_4 : decode prog_11_method_34_code 4 = .ok (.bipush (40), 2) := by decide +kernel
theorem dM_pull_6 : decode prog_11_method_34_code 6 = .ok (.iload_n 1, 1) := by decide +kernel
theorem dM_pull_7 : decode prog_11_method_34_code 7 = .ok (.imul, 1) := by decide +kernel
theorem dM_pull_8 : decode prog_11_method_34_code 8 = .ok (.iaload, 1) := by decide +kernel
theorem dM_pull_9 : decode prog_11_method_34_code 9 = .ok (.istore_n 2, 1) := by decide +kernel
theorem dM_pull_10 : decode prog_11_method_34_code 10 = .ok (.aload_n 0, 1) := by decide +kernel
theorem dM_pull_11 : decode prog_11_method_34_code 11 = .ok (.getfield 31, 3) := by decide +kernel
theorem dM_pull_14 : decode prog_11_method_34_code 14 = .ok (.iload_n 1, 1) := by decide +kernel
theorem dM_pull_15 : decode prog_11_method_34_code 15 = .ok (.dup2, 1) := by decide +kernel
theorem dM_pull_16 : decode prog_11_method_34_code 16 = .ok (.iaload, 1) := by decide +kernel
theorem dM_pull_17 : decode prog_11_method_34_code 17 = .ok (.iconst 1, 1) := by decide +kernel
theorem dM_pull_18 : decode prog_11_method_34_code 18 = .ok (.isub, 1) := by decide +kernel
theorem dM_pull_19 : decode prog_11_method_34_code 19 = .ok (.iastore, 1) := by decide +kernel
theorem dM_pull_20 : decode prog_11_method_34_code 20 = .ok (.iconst 0, 1) := by decide +kernel
theorem dM_pull_21 : decode prog_11_method_34_code 21 = .ok (.istore_n 3, 1) := by decide +kernel
theorem dM_pull_22 : decode prog_11_method_34_code 22 = .ok (.iload_n 3, 1) := by decide +kernel
theorem dM_pull_23 : decode prog_11_method_34_code 23 = .ok (.aload_n 0, 1) := by decide +kernel
theorem dM_pull_24 : decode prog_11_method_34_code 24 = .ok (.getfield 31, 3) := by decide +kernel
theorem dM_pull_27 : decode prog_11_method_34_code 27 = .ok (.iload_n 1, 1) := by decide +kernel
theorem dM_pull_28 : decode prog_11_method_34_code 28 = .ok (.iaload, 1) := by decide +kernel
theorem dM_pull_29 : decode prog_11_method_34_code 29 = .ok (.if_icmp .ge (33), 3) := by decide +kernel
theorem dM_pull_32 : decode prog_11_method_34_code 32 = .ok (.aload_n 0, 1) := by decide +kernel
theorem dM_pull_33 : decode prog_11_method_34_code 33 = .ok (.getfield 28, 3) := by decide +kernel
theorem dM_pull_36 : decode prog_11_method_34_code 36 = .ok (.bipush (40), 2) := by decide +kernel
theorem dM_pull_38 : decode prog_11_method_34_code 38 = .ok (.iload_n 1, 1) := by decide +kernel
theorem dM_pull_39 : decode prog_11_method_34_code 39 = .ok (.imul, 1) := by decide +kernel
theorem dM_pull_40 : decode prog_11_method_34_code 40 = .ok (.iload_n 3, 1) := by decide +kernel
theorem dM_pull_41 : decode prog_11_method_34_code 41 = .ok (.iadd, 1) := by decide +kernel
theorem dM_pull_42 : decode prog_11_method_34_code 42 = .ok (.aload_n 0, 1) := by decide +kernel
theorem dM_pull_43 : decode prog_11_method_34_code 43 = .ok (.getfield 28, 3) := by decide +kernel
theorem dM_pull_46 : decode prog_11_method_34_code 46 = .ok (.bipush (40), 2) := by decide +kernel
theorem dM_pull_48 : decode prog_11_method_34_code 48 = .ok (.iload_n 1, 1) := by decide +kernel
theorem dM_pull_49 : decode prog_11_method_34_code 49 = .ok (.imul, 1) := by decide +kernel
theorem dM_pull_50 : decode prog_11_method_34_code 50 = .ok (.iload_n 3, 1) := by decide +kernel
theorem dM_pull_51 : decode prog_11_method_34_code 51 = .ok (.iadd, 1) := by decide +kernel
theorem dM_pull_52 : decode prog_11_method_34_code 52 = .ok (.iconst 1, 1) := by decide +kernel
theorem dM_pull_53 : decode prog_11_method_34_code 53 = .ok (.iadd, 1) := by decide +kernel
theorem dM_pull_54 : decode prog_11_method_34_code 54 = .ok (.iaload, 1) := by decide +kernel
theorem dM_pull_55 : decode prog_11_method_34_code 55 = .ok (.iastore, 1) := by decide +kernel
theorem dM_pull_56 : decode prog_11_method_34_code 56 = .ok (.iinc 3 (1), 3) := by decide +kernel
theorem dM_pull_59 : decode prog_11_method_34_code 59 = .ok (.goto (-37), 3) := by decide +kernel
theorem dM_pull_62 : decode prog_11_method_34_code 62 = .ok (.iload_n 2, 1) := by decide +kernel
theorem dM_pull_63 : decode prog_11_method_34_code 63 = .ok (.ireturn, 1) := by decide +kernel
theorem dM_canForward_0 : decode prog_11_method_35_code 0 = .ok (.iconst 1, 1) := by decide +kernel
theorem dM_canForward_1 : decode prog_11_method_35_code 1 = .ok (.istore_n 2, 1) := by decide +kernel
theorem dM_canForward_2 : decode prog_11_method_35_code 2 = .ok (.iconst 0, 1) := by decide +kernel
theorem dM_canForward_3 : decode prog_11_method_35_code 3 = .ok (.istore_n 3, 1) := by decide +kernel
theorem dM_canForward_4 : decode prog_11_method_35_code 4 = .ok (.iload_n 3, 1) := by decide +kernel
theorem dM_canForward_5 : decode prog_11_method_35_code 5 = .ok (.aload_n 0, 1) := by decide +kernel
theorem dM_canForward_6 : decode prog_11_method_35_code 6 = .ok (.iload_n 1, 1) := by decide +kernel
theorem dM_canForward_7 : decode prog_11_method_35_code 7 = .ok (.invokevirtual 63, 3) := by decide +kernel
theorem dM_canForward_10 : decode prog_11_method_35_code 10 = .ok (.if_icmp .ge (34), 3) := by decide +kernel
theorem dM_canForward_13 : decode prog_11_method_35_code 13 = .ok (.iload_n 2, 1) := by decide +kernel
theorem dM_canForward_14 : decode prog_11_method_35_code 14 = .ok (.ifCond .eq (22), 3) := by decide +kernel
theorem dM_canForward_17 : decode prog_11_method_35_code 17 = .ok (.aload_n 0, 1) := by decide +kernel
theorem dM_canForward_18 : decode prog_11_method_35_code 18 = .ok (.getfield 31, 3) := by decide +kernel
theorem dM_canForward_21 : decode prog_11_method_35_code 21 = .ok (.iconst 2, 1) := by decide +kernel
theorem dM_canForward_22 : decode prog_11_method_35_code 22 = .ok (.iload_n 1, 1) := by decide +kernel
theorem dM_canForward_23 : decode prog_11_method_35_code 23 = .ok (.imul, 1) := by decide +kernel
theorem dM_canForward_24 : decode prog_11_method_35_code 24 = .ok (.iconst 2, 1) := by decide +kernel
theorem dM_canForward_25 : decode prog_11_method_35_code 25 = .ok (.isub, 1) := by decide +kernel
theorem dM_canForward_26 : decode prog_11_method_35_code 26 = .ok (.iload_n 3, 1) := by decide +kernel
theorem dM_canForward_27 : decode prog_11_method_35_code 27 = .ok (.iadd, 1) := by decide +kernel
theorem dM_canForward_28 : decode prog_11_method_35_code 28 = .ok (.iaload, 1) := by decide +kernel
theorem dM_canForward_29 : decode prog_11_method_35_code 29 = .ok (.ifCond .le (7), 3) := by decide +kernel
theorem dM_canForward_32 : decode prog_11_method_35_code 32 = .ok (.iconst 1, 1) := by decide +kernel
theorem dM_canForward_33 : decode prog_11_method_35_code 33 = .ok (.goto (4), 3) := by decide +kernel
theorem dM_canForward_36 : decode prog_11_method_35_code 36 = .ok (.iconst 0, 1) := by decide +kernel
theorem dM_canForward_37 : decode prog_11_method_35_code 37 = .ok (.istore_n 2, 1) := by decide +kernel
theorem dM_canForward_38 : decode prog_11_method_35_code 38 = .ok (.iinc 3 (1), 3) := by decide +kernel
theorem dM_canForward_41 : decode prog_11_method_35_code 41 = .ok (.goto (-37), 3) := by decide +kernel
theorem dM_canForward_44 : decode prog_11_method_35_code 44 = .ok (.iload_n 2, 1) := by decide +kernel
theorem dM_canForward_45 : decode prog_11_method_35_code 45 = .ok (.ireturn, 1) := by decide +kernel
theorem dM_forward_0 : decode prog_11_method_36_code 0 = .ok (.aload_n 0, 1) := by decide +kernel
theorem dM_forward_1 : decode prog_11_method_36_code 1 = .ok (.iconst 2, 1) := by decide +kernel
theorem dM_forward_2 : decode prog_11_method_36_code 2 = .ok (.iload_n 1, 1) := by decide +kernel
theorem dM_forward_3 : decode prog_11_method_36_code 3 = .ok (.imul, 1) := by decide +kernel
theorem dM_forward_4 : decode prog_11_method_36_code 4 = .ok (.iconst 2, 1) := by decide +kernel
theorem dM_forward_5 : decode prog_11_method_36_code 5 = .ok (.isub, 1) := by decide +kernel
theorem dM_forward_6 : decode prog_11_method_36_code 6 = .ok (.invokevirtual 113, 3) := by decide +kernel
theorem dM_forward_9 : decode prog_11_method_36_code 9 = .ok (.istore_n 2, 1) := by decide +kernel
theorem dM_forward_10 : decode prog_11_method_36_code 10 = .ok (.aload_n 0, 1) := by decide +kernel
theorem dM_forward_11 : decode prog_11_method_36_code 11 = .ok (.iload_n 1, 1) := by decide +kernel
theorem dM_forward_12 : decode prog_11_method_36_code 12 = .ok (.invokevirtual 63, 3) := by decide +kernel
theorem dM_forward_15 : decode prog_11_method_36_code 15 = .ok (.iconst 2, 1) := by decide +kernel
theorem dM_forward_16 : decode prog_11_method_36_code 16 = .ok (.if_icmp .ne (15), 3) := by decide +kernel
theorem dM_forward_19 : decode prog_11_method_36_code 19 = .ok (.aload_n 0, 1) := by decide +kernel
theorem dM_forward_20 : decode prog_11_method_36_code 20 = .ok (.iconst 2, 1) := by decide +kernel
theorem dM_forward_21 : decode prog_11_method_36_code 21 = .ok (.iload_n 1, 1) := by decide +kernel
theorem dM_forward_22 : decode prog_11_method_36_code 22 = .ok (.imul, 1) := by decide +kernel
theorem dM_forward_23 : decode prog_11_method_36_code 23 = .ok (.iconst 1, 1) := by decide +kernel
theorem dM_forward_24 : decode prog_11_method_36_code 24 = .ok (.isub, 1) := by decide +kernel
theorem dM_forward_25 : decode prog_11_method_36_code 25 = .ok (.invokevirtual 113, 3) := by decide +kernel
theorem dM_forward_28 : decode prog_11_method_36_code 28 = .ok (.goto (4), 3) := by decide +kernel
theorem dM_forward_31 : decode prog_11_method_36_code 31 = .ok (.iconst 2, 1) := by decide +kernel
theorem dM_forward_32 : decode prog_11_method_36_code 32 = .ok (.istore_n 3, 1) := by decide +kernel
theorem dM_forward_33 : decode prog_11_method_36_code 33 = .ok (.aload_n 0, 1) := by decide +kernel
theorem dM_forward_34 : decode prog_11_method_36_code 34 = .ok (.getfield 7, 3) := by decide +kernel
theorem dM_forward_37 : decode prog_11_method_36_code 37 = .ok (.iload_n 1, 1) := by decide +kernel
theorem dM_forward_38 : decode prog_11_method_36_code 38 = .ok (.iaload, 1) := by decide +kernel
theorem dM_forward_39 : decode prog_11_method_36_code 39 = .ok (.iload_n 2, 1) := by decide +kernel
theorem dM_forward_40 : decode prog_11_method_36_code 40 = .ok (.iload_n 3, 1) := by decide +kernel
theorem dM_forward_41 : decode prog_11_method_36_code 41 = .ok (.invokestatic 116, 3) := by decide +kernel
theorem dM_forward_44 : decode prog_11_method_36_code 44 = .ok (.istore 4, 2) := by decide +kernel
theorem dM_forward_46 : decode prog_11_method_36_code 46 = .ok (.iconst 0, 1) := by decide +kernel
theorem dM_forward_47 : decode prog_11_method_36_code 47 = .ok (.istore 5, 2) := by decide +kernel
theorem dM_forward_49 : decode prog_11_method_36_code 49 = .ok (.iload 5, 2) := by decide +kernel
theorem dM_forward_51 : decode prog_11_method_36_code 51 = .ok (.bipush (27), 2) := by decide +kernel
theorem dM_forward_53 : decode prog_11_method_36_code 53 = .ok (.if_icmp .ge (51), 3) := by decide +kernel
theorem dM_forward_56 : decode prog_11_method_36_code 56 = .ok (.aload_n 0, 1) := by decide +kernel
theorem dM_forward_57 : decode prog_11_method_36_code 57 = .ok (.getfield 16, 3) := by decide +kernel
theorem dM_forward_60 : decode prog_11_method_36_code 60 = .ok (.iload 5, 2) := by decide +kernel
theorem dM_forward_62 : decode prog_11_method_36_code 62 = .ok (.iaload, 1) := by decide +kernel
theorem dM_forward_63 : decode prog_11_method_36_code 63 = .ok (.iload_n 1, 1) := by decide +kernel
theorem dM_forward_64 : decode prog_11_method_36_code 64 = .ok (.if_icmp .ne (34), 3) := by decide +kernel
theorem dM_forward_67 : decode prog_11_method_36_code 67 = .ok (.aload_n 0, 1) := by decide +kernel
theorem dM_forward_68 : decode prog_11_method_36_code 68 = .ok (.getfield 28, 3) := by decide +kernel
theorem dM_forward_71 : decode prog_11_method_36_code 71 = .ok (.bipush (40), 2) := by decide +kernel
theorem dM_forward_73 : decode prog_11_method_36_code 73 = .ok (.iload 5, 2) := by decide +kernel
theorem dM_forward_75 : decode prog_11_method_36_code 75 = .ok (.imul, 1) := by decide +kernel
theorem dM_forward_76 : decode prog_11_method_36_code 76 = .ok (.aload_n 0, 1) := by decide +kernel
theorem dM_forward_77 : decode prog_11_method_36_code 77 = .ok (.getfield 31, 3) := by decide +kernel
theorem dM_forward_80 : decode prog_11_method_36_code 80 = .ok (.iload 5, 2) := by decide +kernel
theorem dM_forward_82 : decode prog_11_method_36_code 82 = .ok (.iaload, 1) := by decide +kernel
theorem dM_forward_83 : decode prog_11_method_36_code 83 = .ok (.iadd, 1) := by decide +kernel
theorem dM_forward_84 : decode prog_11_method_36_code 84 = .ok (.iload 4, 2) := by decide +kernel
theorem dM_forward_86 : decode prog_11_method_36_code 86 = .ok (.iastore, 1) := by decide +kernel
theorem dM_forward_87 : decode prog_11_method_36_code 87 = .ok (.aload_n 0, 1) := by decide +kernel
theorem dM_forward_88 : decode prog_11_method_36_code 88 = .ok (.getfield 31, 3) := by decide +kernel
theorem dM_forward_91 : decode prog_11_method_36_code 91 = .ok (.iload 5, 2) := by decide +kernel
theorem dM_forward_93 : decode prog_11_method_36_code 93 = .ok (.dup2, 1) := by decide +kernel
theorem dM_forward_94 : decode prog_11_method_36_code 94 = .ok (.iaload, 1) := by decide +kernel
theorem dM_forward_95 : decode prog_11_method_36_code 95 = .ok (.iconst 1, 1) := by decide +kernel
theorem dM_forward_96 : decode prog_11_method_36_code 96 = .ok (.iadd, 1) := by decide +kernel
theorem dM_forward_97 : decode prog_11_method_36_code 97 = .ok (.iastore, 1) := by decide +kernel
theorem dM_forward_98 : decode prog_11_method_36_code 98 = .ok (.iinc 5 (1), 3) := by decide +kernel
theorem dM_forward_101 : decode prog_11_method_36_code 101 = .ok (.goto (-52), 3) := by decide +kernel
theorem dM_forward_104 : decode prog_11_method_36_code 104 = .ok (.return_, 1) := by decide +kernel
theorem dM_canBackward_0 : decode prog_11_method_37_code 0 = .ok (.iconst 1, 1) := by decide +kernel
theorem dM_canBackward_1 : decode prog_11_method_37_code 1 = .ok (.istore_n 2, 1) := by decide +kernel
theorem dM_canBackward_2 : decode prog_11_method_37_code 2 = .ok (.iconst 0, 1) := by decide +kernel
theorem dM_canBackward_3 : decode prog_11_method_37_code 3 = .ok (.istore_n 3, 1) := by decide +kernel
theorem dM_canBackward_4 : decode prog_11_method_37_code 4 = .ok (.iload_n 3, 1) := by decide +kernel
theorem dM_canBackward_5 : decode prog_11_method_37_code 5 = .ok (.bipush (27), 2) := by decide +kernel
theorem dM_canBackward_7 : decode prog_11_method_37_code 7 = .ok (.if_icmp .ge (38), 3) := by decide +kernel
theorem dM_canBackward_10 : decode prog_11_method_37_code 10 = .ok (.iload_n 2, 1) := by decide +kernel
theorem dM_canBackward_11 : decode prog_11_method_37_code 11 = .ok (.ifCond .eq (26), 3) := by decide +kernel
theorem dM_canBackward_14 : decode prog_11_method_37_code 14 = .ok (.aload_n 0, 1) := by decide +kernel
theorem dM_canBackward_15 : decode prog_11_method_37_code 15 = .ok (.getfield 16, 3) := by decide +kernel
theorem dM_canBackward_18 : decode prog_11_method_37_code 18 = .ok (.iload_n 3, 1) := by decide +kernel
theorem dM_canBackward_19 : decode prog_11_method_37_code 19 = .ok (.iaload, 1) := by decide +kernel
theorem dM_canBackward_20 : decode prog_11_method_37_code 20 = .ok (.iload_n 1, 1) := by decide +kernel
theorem dM_canBackward_21 : decode prog_11_method_37_code 21 = .ok (.if_icmp .ne (12), 3) := by decide +kernel
theorem dM_canBackward_24 : decode prog_11_method_37_code 24 = .ok (.aload_n 0, 1) := by decide +kernel
theorem dM_canBackward_25 : decode prog_11_method_37_code 25 = .ok (.getfield 31, 3) := by decide +kernel
theorem dM_canBackward_28 : decode prog_11_method_37_code 28 = .ok (.iload_n 3, 1) := by decide +kernel
theorem dM_canBackward_29 : decode prog_11_method_37_code 29 = .ok (.iaload, 1) := by decide +kernel
theorem dM_canBackward_30 : decode prog_11_method_37_code 30 = .ok (.ifCond .le (7), 3) := by decide +kernel
theorem dM_canBackward_33 : decode prog_11_method_37_code 33 = .ok (.iconst 1, 1) := by decide +kernel
theorem dM_canBackward_34 : decode prog_11_method_37_code 34 = .ok (.goto (4), 3) := by decide +kernel
theorem dM_canBackward_37 : decode prog_11_method_37_code 37 = .ok (.iconst 0, 1) := by decide +kernel
theorem dM_canBackward_38 : decode prog_11_method_37_code 38 = .ok (.istore_n 2, 1) := by decide +kernel
theorem dM_canBackward_39 : decode prog_11_method_37_code 39 = .ok (.iinc 3 (1), 3) := by decide +kernel
theorem dM_canBackward_42 : decode prog_11_method_37_code 42 = .ok (.goto (-38), 3) := by decide +kernel
theorem dM_canBackward_45 : decode prog_11_method_37_code 45 = .ok (.iload_n 2, 1) := by decide +kernel
theorem dM_canBackward_46 : decode prog_11_method_37_code 46 = .ok (.ireturn, 1) := by decide +kernel
theorem dM_backward_0 : decode prog_11_method_38_code 0 = .ok (.iconst 0, 1) := by decide +kernel
theorem dM_backward_1 : decode prog_11_method_38_code 1 = .ok (.istore_n 2, 1) := by decide +kernel
theorem dM_backward_2 : decode prog_11_method_38_code 2 = .ok (.iconst 0, 1) := by decide +kernel
theorem dM_backward_3 : decode prog_11_method_38_code 3 = .ok (.istore_n 3, 1) := by decide +kernel
theorem dM_backward_4 : decode prog_11_method_38_code 4 = .ok (.iconst 0, 1) := by decide +kernel
theorem dM_backward_5 : decode prog_11_method_38_code 5 = .ok (.istore 4, 2) := by decide +kernel
theorem dM_backward_7 : decode prog_11_method_38_code 7 = .ok (.iload 4, 2) := by decide +kernel
theorem dM_backward_9 : decode prog_11_method_38_code 9 = .ok (.bipush (27), 2) := by decide +kernel
theorem dM_backward_11 : decode prog_11_method_38_code 11 = .ok (.if_icmp .ge (82), 3) := by decide +kernel
theorem dM_backward_14 : decode prog_11_method_38_code 14 = .ok (.aload_n 0, 1) := by decide +kernel
theorem dM_backward_15 : decode prog_11_method_38_code 15 = .ok (.getfield 16, 3) := by decide +kernel
theorem dM_backward_18 : decode prog_11_method_38_code 18 = .ok (.iload 4, 2) := by decide +kernel
theorem dM_backward_20 : decode prog_11_method_38_code 20 = .ok (.iaload, 1) := by decide +kernel
theorem dM_backward_21 : decode prog_11_method_38_code 21 = .ok (.iload_n 1, 1) := by decide +kernel
theorem dM_backward_22 : decode prog_11_method_38_code 22 = .ok (.if_icmp .ne (65), 3) := by decide +kernel
theorem dM_backward_25 : decode prog_11_method_38_code 25 = .ok (.aload_n 0, 1) := by decide +kernel
theorem dM_backward_26 : decode prog_11_method_38_code 26 = .ok (.getfield 31, 3) := by decide +kernel
theorem dM_backward_29 : decode prog_11_method_38_code 29 = .ok (.iload 4, 2) := by decide +kernel
theorem dM_backward_31 : decode prog_11_method_38_code 31 = .ok (.dup2, 1) := by decide +kernel
theorem dM_backward_32 : decode prog_11_method_38_code 32 = .ok (.iaload, 1) := by decide +kernel
theorem dM_backward_33 : decode prog_11_method_38_code 33 = .ok (.iconst 1, 1) := by decide +kernel
theorem dM_backward_34 : decode prog_11_method_38_code 34 = .ok (.isub, 1) := by decide +kernel
theorem dM_backward_35 : decode prog_11_method_38_code 35 = .ok (.iastore, 1) := by decide +kernel
theorem dM_backward_36 : decode prog_11_method_38_code 36 = .ok (.aload_n 0, 1) := by decide +kernel
theorem dM_backward_37 : decode prog_11_method_38_code 37 = .ok (.getfield 28, 3) := by decide +kernel
theorem dM_backward_40 : decode prog_11_method_38_code 40 = .ok (.bipush (40), 2) := by decide +kernel
theorem dM_backward_42 : decode prog_11_method_38_code 42 = .ok (.iload 4, 2) := by decide +kernel
theorem dM_backward_44 : decode prog_11_method_38_code 44 = .ok (.imul, 1) := by decide +kernel
theorem dM_backward_45 : decode prog_11_method_38_code 45 = .ok (.aload_n 0, 1) := by decide +kernel
theorem dM_backward_46 : decode prog_11_method_38_code 46 = .ok (.getfield 31, 3) := by decide +kernel
theorem dM_backward_49 : decode prog_11_method_38_code 49 = .ok (.iload 4, 2) := by decide +kernel
theorem dM_backward_51 : decode prog_11_method_38_code 51 = .ok (.iaload, 1) := by decide +kernel
theorem dM_backward_52 : decode prog_11_method_38_code 52 = .ok (.iadd, 1) := by decide +kernel
theorem dM_backward_53 : decode prog_11_method_38_code 53 = .ok (.iaload, 1) := by decide +kernel
theorem dM_backward_54 : decode prog_11_method_38_code 54 = .ok (.istore 5, 2) := by decide +kernel
theorem dM_backward_56 : decode prog_11_method_38_code 56 = .ok (.iload_n 2, 1) := by decide +kernel
theorem dM_backward_57 : decode prog_11_method_38_code 57 = .ok (.ifCond .ne (8), 3) := by decide +kernel
theorem dM_backward_60 : decode prog_11_method_38_code 60 = .ok (.iload 5, 2) := by decide +kernel
theorem dM_backward_62 : decode prog_11_method_38_code 62 = .ok (.ifCond .ne (7), 3) := by decide +kernel
theorem dM_backward_65 : decode prog_11_method_38_code 65 = .ok (.iconst 1, 1) := by decide +kernel
theorem dM_backward_66 : decode prog_11_method_38_code 66 = .ok (.goto (4), 3) := by decide +kernel
theorem dM_backward_69 : decode prog_11_method_38_code 69 = .ok (.iconst 0, 1) := by decide +kernel
theorem dM_backward_70 : decode prog_11_method_38_code 70 = .ok (.istore_n 2, 1) := by decide +kernel
theorem dM_backward_71 : decode prog_11_method_38_code 71 = .ok (.iload_n 3, 1) := by decide +kernel
theorem dM_backward_72 : decode prog_11_method_38_code 72 = .ok (.ifCond .ne (9), 3) := by decide +kernel
theorem dM_backward_75 : decode prog_11_method_38_code 75 = .ok (.iload 5, 2) := by decide +kernel
theorem dM_backward_77 : decode prog_11_method_38_code 77 = .ok (.iconst 1, 1) := by decide +kernel
theorem dM_backward_78 : decode prog_11_method_38_code 78 = .ok (.if_icmp .ne (7), 3) := by decide +kernel
theorem dM_backward_81 : decode prog_11_method_38_code 81 = .ok (.iconst 1, 1) := by decide +kernel
theorem dM_backward_82 : decode prog_11_method_38_code 82 = .ok (.goto (4), 3) := by decide +kernel
theorem dM_backward_85 : decode prog_11_method_38_code 85 = .ok (.iconst 0, 1) := by decide +kernel
theorem dM_backward_86 : decode prog_11_method_38_code 86 = .ok (.istore_n 3, 1) := by decide +kernel
theorem dM_backward_87 : decode prog_11_method_38_code 87 = .ok (.iinc 4 (1), 3) := by decide +kernel
theorem dM_backward_90 : decode prog_11_method_38_code 90 = .ok (.goto (-83), 3) := by decide +kernel
theorem dM_backward_93 : decode prog_11_method_38_code 93 = .ok (.iload_n 3, 1) := by decide +kernel
theorem dM_backward_94 : decode prog_11_method_38_code 94 = .ok (.ifCond .eq (7), 3) := by decide +kernel
theorem dM_backward_97 : decode prog_11_method_38_code 97 = .ok (.iconst 1, 1) := by decide +kernel
theorem dM_backward_98 : decode prog_11_method_38_code 98 = .ok (.goto (12), 3) := by decide +kernel
theorem dM_backward_101 : decode prog_11_method_38_code 101 = .ok (.iload_n 2, 1) := by decide +kernel
theorem dM_backward_102 : decode prog_11_method_38_code 102 = .ok (.ifCond .eq (7), 3) := by decide +kernel
theorem dM_backward_105 : decode prog_11_method_38_code 105 = .ok (.iconst 0, 1) := by decide +kernel
theorem dM_backward_106 : decode prog_11_method_38_code 106 = .ok (.goto (4), 3) := by decide +kernel
theorem dM_backward_109 : decode prog_11_method_38_code 109 = .ok (.iconst 2, 1) := by decide +kernel
theorem dM_backward_110 : decode prog_11_method_38_code 110 = .ok (.istore 4, 2) := by decide +kernel
theorem dM_backward_112 : decode prog_11_method_38_code 112 = .ok (.aload_n 0, 1) := by decide +kernel
theorem dM_backward_113 : decode prog_11_method_38_code 113 = .ok (.getfield 7, 3) := by decide +kernel
theorem dM_backward_116 : decode prog_11_method_38_code 116 = .ok (.iload_n 1, 1) := by decide +kernel
theorem dM_backward_117 : decode prog_11_method_38_code 117 = .ok (.iaload, 1) := by decide +kernel
theorem dM_backward_118 : decode prog_11_method_38_code 118 = .ok (.istore 5, 2) := by decide +kernel
theorem dM_backward_120 : decode prog_11_method_38_code 120 = .ok (.iload 4, 2) := by decide +kernel
theorem dM_backward_122 : decode prog_11_method_38_code 122 = .ok (.iconst 2, 1) := by decide +kernel
theorem dM_backward_123 : decode prog_11_method_38_code 123 = .ok (.if_icmp .eq (9), 3) := by decide +kernel
theorem dM_backward_126 : decode prog_11_method_38_code 126 = .ok (.iload 5, 2) := by decide +kernel
theorem dM_backward_128 : decode prog_11_method_38_code 128 = .ok (.iconst 1, 1) := by decide +kernel
theorem dM_backward_129 : decode prog_11_method_38_code 129 = .ok (.if_icmp .eq (8), 3) := by decide +kernel
theorem dM_backward_132 : decode prog_11_method_38_code 132 = .ok (.iload 4, 2) := by decide +kernel
theorem dM_backward_134 : decode prog_11_method_38_code 134 = .ok (.goto (7), 3) := by decide +kernel
theorem dM_backward_137 : decode prog_11_method_38_code 137 = .ok (.iconst 1, 1) := by decide +kernel
theorem dM_backward_138 : decode prog_11_method_38_code 138 = .ok (.iload 4, 2) := by decide +kernel
theorem dM_backward_140 : decode prog_11_method_38_code 140 = .ok (.isub, 1) := by decide +kernel
theorem dM_backward_141 : decode prog_11_method_38_code 141 = .ok (.istore 6, 2) := by decide +kernel
theorem dM_backward_143 : decode prog_11_method_38_code 143 = .ok (.iload 5, 2) := by decide +kernel
theorem dM_backward_145 : decode prog_11_method_38_code 145 = .ok (.iconst 2, 1) := by decide +kernel
theorem dM_backward_146 : decode prog_11_method_38_code 146 = .ok (.if_icmp .ne (9), 3) := by decide +kernel
theorem dM_backward_149 : decode prog_11_method_38_code 149 = .ok (.iload 4, 2) := by decide +kernel
theorem dM_backward_151 : decode prog_11_method_38_code 151 = .ok (.iconst 1, 1) := by decide +kernel
theorem dM_backward_152 : decode prog_11_method_38_code 152 = .ok (.if_icmp .eq (14), 3) := by decide +kernel
theorem dM_backward_155 : decode prog_11_method_38_code 155 = .ok (.iload 5, 2) := by decide +kernel
theorem dM_backward_157 : decode prog_11_method_38_code 157 = .ok (.iconst 3, 1) := by decide +kernel
theorem dM_backward_158 : decode prog_11_method_38_code 158 = .ok (.if_icmp .ne (12), 3) := by decide +kernel
theorem dM_backward_161 : decode prog_11_method_38_code 161 = .ok (.iload 4, 2) := by decide +kernel
theorem dM_backward_163 : decode prog_11_method_38_code 163 = .ok (.ifCond .ne (7), 3) := by decide +kernel
theorem dM_backward_166 : decode prog_11_method_38_code 166 = .ok (.iconst 1, 1) := by decide +kernel
theorem dM_backward_167 : decode prog_11_method_38_code 167 = .ok (.goto (4), 3) := by decide +kernel
theorem dM_backward_170 : decode prog_11_method_38_code 170 = .ok (.iconst 0, 1) := by decide +kernel
theorem dM_backward_171 : decode prog_11_method_38_code 171 = .ok (.istore 7, 2) := by decide +kernel
theorem dM_backward_173 : decode prog_11_method_38_code 173 = .ok (.iload 4, 2) := by decide +kernel
theorem dM_backward_175 : decode prog_11_method_38_code 175 = .ok (.iconst 2, 1) := by decide +kernel
theorem dM_backward_176 : decode prog_11_method_38_code 176 = .ok (.if_icmp .ne (7), 3) := by decide +kernel
theorem dM_backward_179 : decode prog_11_method_38_code 179 = .ok (.iconst 2, 1) := by decide +kernel
theorem dM_backward_180 : decode prog_11_method_38_code 180 = .ok (.goto (24), 3) := by decide +kernel
theorem dM_backward_183 : decode prog_11_method_38_code 183 = .ok (.iload 7, 2) := by decide +kernel
theorem dM_backward_185 : decode prog_11_method_38_code 185 = .ok (.ifCond .eq (8), 3) := by decide +kernel
theorem dM_backward_188 : decode prog_11_method_38_code 188 = .ok (.iload 4, 2) := by decide +kernel
theorem dM_backward_190 : decode prog_11_method_38_code 190 = .ok (.goto (14), 3) := by decide +kernel
theorem dM_backward_193 : decode prog_11_method_38_code 193 = .ok (.iload 5, 2) := by decide +kernel
theorem dM_backward_195 : decode prog_11_method_38_code 195 = .ok (.iconst 4, 1) := by decide +kernel
theorem dM_backward_196 : decode prog_11_method_38_code 196 = .ok (.if_icmp .ne (7), 3) := by decide +kernel
theorem dM_backward_199 : decode prog_11_method_38_code 199 = .ok (.iconst 0, 1) := by decide +kernel
theorem dM_backward_200 : decode prog_11_method_38_code 200 = .ok (.goto (4), 3) := by decide +kernel
theorem dM_backward_203 : decode prog_11_method_38_code 203 = .ok (.iconst 2, 1) := by decide +kernel
theorem dM_backward_204 : decode prog_11_method_38_code 204 = .ok (.istore 8, 2) := by decide +kernel
theorem dM_backward_206 : decode prog_11_method_38_code 206 = .ok (.aload_n 0, 1) := by decide +kernel
theorem dM_backward_207 : decode prog_11_method_38_code 207 = .ok (.iconst 2, 1) := by decide +kernel
theorem dM_backward_208 : decode prog_11_method_38_code 208 = .ok (.iload_n 1, 1) := by decide +kernel
theorem dM_backward_209 : decode prog_11_method_38_code 209 = .ok (.imul, 1) := by decide +kernel
theorem dM_backward_210 : decode prog_11_method_38_code 210 = .ok (.iconst 2, 1) := by decide +kernel
theorem dM_backward_211 : decode prog_11_method_38_code 211 = .ok (.isub, 1) := by decide +kernel
theorem dM_backward_212 : decode prog_11_method_38_code 212 = .ok (.iload 6, 2) := by decide +kernel
theorem dM_backward_214 : decode prog_11_method_38_code 214 = .ok (.invokevirtual 120, 3) := by decide +kernel
theorem dM_backward_217 : decode prog_11_method_38_code 217 = .ok (.aload_n 0, 1) := by decide +kernel
theorem dM_backward_218 : decode prog_11_method_38_code 218 = .ok (.iload_n 1, 1) := by decide +kernel
theorem dM_backward_219 : decode prog_11_method_38_code 219 = .ok (.invokevirtual 63, 3) := by decide +kernel
theorem dM_backward_222 : decode prog_11_method_38_code 222 = .ok (.iconst 2, 1) := by decide +kernel
theorem dM_backward_223 : decode prog_11_method_38_code 223 = .ok (.if_icmp .ne (14), 3) := by decide +kernel
theorem dM_backward_226 : decode prog_11_method_38_code 226 = .ok (.aload_n 0, 1) := by decide +kernel
theorem dM_backward_227 : decode prog_11_method_38_code 227 = .ok (.iconst 2, 1) := by decide +kernel
theorem dM_backward_228 : decode prog_11_method_38_code 228 = .ok (.iload_n 1, 1) := by decide +kernel
theorem dM_backward_229 : decode prog_11_method_38_code 229 = .ok (.imul, 1) := by decide +kernel
theorem dM_backward_230 : decode prog_11_method_38_code 230 = .ok (.iconst 1, 1) := by decide +kernel
theorem dM_backward_231 : decode prog_11_method_38_code 231 = .ok (.isub, 1) := by decide +kernel
theorem dM_backward_232 : decode prog_11_method_38_code 232 = .ok (.iload 8, 2) := by decide +kernel
theorem dM_backward_234 : decode prog_11_method_38_code 234 = .ok (.invokevirtual 120, 3) := by decide +kernel
theorem dM_backward_237 : decode prog_11_method_38_code 237 = .ok (.iload_n 2, 1) := by decide +kernel
theorem dM_backward_238 : decode prog_11_method_38_code 238 = .ok (.ifCond .eq (7), 3) := by decide +kernel
theorem dM_backward_241 : decode prog_11_method_38_code 241 = .ok (.iload_n 3, 1) := by decide +kernel
theorem dM_backward_242 : decode prog_11_method_38_code 242 = .ok (.ifCond .ne (7), 3) := by decide +kernel
theorem dM_backward_245 : decode prog_11_method_38_code 245 = .ok (.iconst 1, 1) := by decide +kernel
theorem dM_backward_246 : decode prog_11_method_38_code 246 = .ok (.goto (4), 3) := by decide +kernel
theorem dM_backward_249 : decode prog_11_method_38_code 249 = .ok (.iconst 0, 1) := by decide +kernel
theorem dM_backward_250 : decode prog_11_method_38_code 250 = .ok (.ireturn, 1) := by decide +kernel
theorem dM_follow_0 : decode prog_11_method_39_code 0 = .ok (.iconst 0, 1) := by decide +kernel
theorem dM_follow_1 : decode prog_11_method_39_code 1 = .ok (.istore_n 1, 1) := by decide +kernel
theorem dM_follow_2 : decode prog_11_method_39_code 2 = .ok (.iload_n 1, 1) := by decide +kernel
theorem dM_follow_3 : decode prog_11_method_39_code 3 = .ok (.bipush (27), 2) := by decide +kernel
theorem dM_follow_5 : decode prog_11_method_39_code 5 = .ok (.if_icmp .ge (21), 3) := by decide +kernel
theorem dM_follow_8 : decode prog_11_method_39_code 8 = .ok (.aload_n 0, 1) := by decide +kernel
theorem dM_follow_9 : decode prog_11_method_39_code 9 = .ok (.getfield 31, 3) := by decide +kernel
theorem dM_follow_12 : decode prog_11_method_39_code 12 = .ok (.iload_n 1, 1) := by decide +kernel
theorem dM_follow_13 : decode prog_11_method_39_code 13 = .ok (.aload_n 0, 1) := by decide +kernel
theorem dM_follow_14 : decode prog_11_method_39_code 14 = .ok (.getfield 19, 3) := by decide +kernel
theorem dM_follow_17 : decode prog_11_method_39_code 17 = .ok (.iload_n 1, 1) := by decide +kernel
theorem dM_follow_18 : decode prog_11_method_39_code 18 = .ok (.iaload, 1) := by decide +kernel
theorem dM_follow_19 : decode prog_11_method_39_code 19 = .ok (.iastore, 1) := by decide +kernel
theorem dM_follow_20 : decode prog_11_method_39_code 20 = .ok (.iinc 1 (1), 3) := by decide +kernel
theorem dM_follow_23 : decode prog_11_method_39_code 23 = .ok (.goto (-21), 3) := by decide +kernel
theorem dM_follow_26 : decode prog_11_method_39_code 26 = .ok (.iconst 0, 1) := by decide +kernel
theorem dM_follow_27 : decode prog_11_method_39_code 27 = .ok (.istore_n 1, 1) := by decide +kernel
theorem dM_follow_28 : decode prog_11_method_39_code 28 = .ok (.iload_n 1, 1) := by decide +kernel
theorem dM_follow_29 : decode prog_11_method_39_code 29 = .ok (.sipush (1080), 3) := by decide +kernel
theorem dM_follow_32 : decode prog_11_method_39_code 32 = .ok (.if_icmp .ge (21), 3) := by decide +kernel
theorem dM_follow_35 : decode prog_11_method_39_code 35 = .ok (.aload_n 0, 1) := by decide +kernel
theorem dM_follow_36 : decode prog_11_method_39_code 36 = .ok (.getfield 28, 3) := by decide +kernel
theorem dM_follow_39 : decode prog_11_method_39_code 39 = .ok (.iload_n 1, 1) := by decide +kernel
theorem dM_follow_40 : decode prog_11_method_39_code 40 = .ok (.aload_n 0, 1) := by decide +kernel
theorem dM_follow_41 : decode prog_11_method_39_code 41 = .ok (.getfield 22, 3) := by decide +kernel
theorem dM_follow_44 : decode prog_11_method_39_code 44 = .ok (.iload_n 1, 1) := by decide +kernel
theorem dM_follow_45 : decode prog_11_method_39_code 45 = .ok (.iaload, 1) := by decide +kernel
theorem dM_follow_46 : decode prog_11_method_39_code 46 = .ok (.iastore, 1) := by decide +kernel
theorem dM_follow_47 : decode prog_11_method_39_code 47 = .ok (.iinc 1 (1), 3) := by decide +kernel
theorem dM_follow_50 : decode prog_11_method_39_code 50 = .ok (.goto (-22), 3) := by decide +kernel
theorem dM_follow_53 : decode prog_11_method_39_code 53 = .ok (.iconst 1, 1) := by decide +kernel
theorem dM_follow_54 : decode prog_11_method_39_code 54 = .ok (.istore_n 1, 1) := by decide +kernel
theorem dM_follow_55 : decode prog_11_method_39_code 55 = .ok (.iload_n 1, 1) := by decide +kernel
theorem dM_follow_56 : decode prog_11_method_39_code 56 = .ok (.aload_n 0, 1) := by decide +kernel
theorem dM_follow_57 : decode prog_11_method_39_code 57 = .ok (.getfield 53, 3) := by decide +kernel
theorem dM_follow_60 : decode prog_11_method_39_code 60 = .ok (.if_icmp .gt (21), 3) := by decide +kernel
theorem dM_follow_63 : decode prog_11_method_39_code 63 = .ok (.aload_n 0, 1) := by decide +kernel
theorem dM_follow_64 : decode prog_11_method_39_code 64 = .ok (.getfield 40, 3) := by decide +kernel
theorem dM_follow_67 : decode prog_11_method_39_code 67 = .ok (.iload_n 1, 1) := by decide +kernel
theorem dM_follow_68 : decode prog_11_method_39_code 68 = .ok (.aload_n 0, 1) := by decide +kernel
theorem dM_follow_69 : decode prog_11_method_39_code 69 = .ok (.getfield 37, 3) := by decide +kernel
theorem dM_follow_72 : decode prog_11_method_39_code 72 = .ok (.iload_n 1, 1) := by decide +kernel
theorem dM_follow_73 : decode prog_11_method_39_code 73 = .ok (.iaload, 1) := by decide +kernel
theorem dM_follow_74 : decode prog_11_method_39_code 74 = .ok (.iastore, 1) := by decide +kernel
theorem dM_follow_75 : decode prog_11_method_39_code 75 = .ok (.iinc 1 (1), 3) := by decide +kernel
theorem dM_follow_78 : decode prog_11_method_39_code 78 = .ok (.goto (-23), 3) := by decide +kernel
theorem dM_follow_81 : decode prog_11_method_39_code 81 = .ok (.iconst 1, 1) := by decide +kernel
theorem dM_follow_82 : decode prog_11_method_39_code 82 = .ok (.istore_n 1, 1) := by decide +kernel
theorem dM_follow_83 : decode prog_11_method_39_code 83 = .ok (.iload_n 1, 1) := by decide +kernel
theorem dM_follow_84 : decode prog_11_method_39_code 84 = .ok (.ifCond .eq (100), 3) := by decide +kernel
theorem dM_follow_87 : decode prog_11_method_39_code 87 = .ok (.iconst 0, 1) := by decide +kernel
theorem dM_follow_88 : decode prog_11_method_39_code 88 = .ok (.istore_n 1, 1) := by decide +kernel
theorem dM_follow_89 : decode prog_11_method_39_code 89 = .ok (.iconst 1, 1) := by decide +kernel
theorem dM_follow_90 : decode prog_11_method_39_code 90 = .ok (.istore_n 2, 1) := by decide +kernel
theorem dM_follow_91 : decode prog_11_method_39_code 91 = .ok (.iload_n 2, 1) := by decide +kernel
theorem dM_follow_92 : decode prog_11_method_39_code 92 = .ok (.aload_n 0, 1) := by decide +kernel
theorem dM_follow_93 : decode prog_11_method_39_code 93 = .ok (.getfield 53, 3) := by decide +kernel
theorem dM_follow_96 : decode prog_11_method_39_code 96 = .ok (.if_icmp .gt (85), 3) := by decide +kernel
theorem dM_follow_99 : decode prog_11_method_39_code 99 = .ok (.aload_n 0, 1) := by decide +kernel
theorem dM_follow_100 : decode prog_11_method_39_code 100 = .ok (.getfield 40, 3) := by decide +kernel
theorem dM_follow_103 : decode prog_11_method_39_code 103 = .ok (.iload_n 2, 1) := by decide +kernel
theorem dM_follow_104 : decode prog_11_method_39_code 104 = .ok (.iaload, 1) := by decide +kernel
theorem dM_follow_105 : decode prog_11_method_39_code 105 = .ok (.ifCond .ge (31), 3) := by decide +kernel
theorem dM_follow_108 : decode prog_11_method_39_code 108 = .ok (.aload_n 0, 1) := by decide +kernel
theorem dM_follow_109 : decode prog_11_method_39_code 109 = .ok (.iload_n 2, 1) := by decide +kernel
theorem dM_follow_110 : decode prog_11_method_39_code 110 = .ok (.invokevirtual 124, 3) := by decide +kernel
theorem dM_follow_113 : decode prog_11_method_39_code 113 = .ok (.ifCond .eq (23), 3) := by decide +kernel
theorem dM_follow_116 : decode prog_11_method_39_code 116 = .ok (.aload_n 0, 1) := by decide +kernel
theorem dM_follow_117 : decode prog_11_method_39_code 117 = .ok (.iload_n 2, 1) := by decide +kernel
theorem dM_follow_118 : decode prog_11_method_39_code 118 = .ok (.invokevirtual 127, 3) := by decide +kernel
theorem dM_follow_121 : decode prog_11_method_39_code 121 = .ok (.aload_n 0, 1) := by decide +kernel
theorem dM_follow_122 : decode prog_11_method_39_code 122 = .ok (.getfield 40, 3) := by decide +kernel
theorem dM_follow_125 : decode prog_11_method_39_code 125 = .ok (.iload_n 2, 1) := by decide +kernel
theorem dM_follow_126 : decode prog_11_method_39_code 126 = .ok (.dup2, 1) := by decide +kernel
theorem dM_follow_127 : decode prog_11_method_39_code 127 = .ok (.iaload, 1) := by decide +kernel
theorem dM_follow_128 : decode prog_11_method_39_code 128 = .ok (.iconst 1, 1) := by decide +kernel
theorem dM_follow_129 : decode prog_11_method_39_code 129 = .ok (.iadd, 1) := by decide +kernel
theorem dM_follow_130 : decode prog_11_method_39_code 130 = .ok (.iastore, 1) := by decide +kernel
theorem dM_follow_131 : decode prog_11_method_39_code 131 = .ok (.iconst 1, 1) := by decide +kernel
theorem dM_follow_132 : decode prog_11_method_39_code 132 = .ok (.istore_n 1, 1) := by decide +kernel
theorem dM_follow_133 : decode prog_11_method_39_code 133 = .ok (.goto (42), 3) := by decide +kernel
theorem dM_follow_136 : decode prog_11_method_39_code 136 = .ok (.aload_n 0, 1) := by decide +kernel
theorem dM_follow_137 : decode prog_11_method_39_code 137 = .ok (.getfield 40, 3) := by decide +kernel
theorem dM_follow_140 : decode prog_11_method_39_code 140 = .ok (.iload_n 2, 1) := by decide +kernel
theorem dM_follow_141 : decode prog_11_method_39_code 141 = .ok (.iaload, 1) := by decide +kernel
theorem dM_follow_142 : decode prog_11_method_39_code 142 = .ok (.ifCond .le (33), 3) := by decide +kernel
theorem dM_follow_145 : decode prog_11_method_39_code 145 = .ok (.aload_n 0, 1) := by decide +kernel
theorem dM_follow_146 : decode prog_11_method_39_code 146 = .ok (.iload_n 2, 1) := by decide +kernel
theorem dM_follow_147 : decode prog_11_method_39_code 147 = .ok (.invokevirtual 131, 3) := by decide +kernel
theorem dM_follow_150 : decode prog_11_method_39_code 150 = .ok (.ifCond .eq (25), 3) := by decide +kernel
theorem dM_follow_153 : decode prog_11_method_39_code 153 = .ok (.aload_n 0, 1) := by decide +kernel
theorem dM_follow_154 : decode prog_11_method_39_code 154 = .ok (.iload_n 2, 1) := by decide +kernel
theorem dM_follow_155 : decode prog_11_method_39_code 155 = .ok (.invokevirtual 134, 3) := by decide +kernel
theorem dM_follow_158 : decode prog_11_method_39_code 158 = .ok (.ifCond .ne (5), 3) := by decide +kernel
theorem dM_follow_161 : decode prog_11_method_39_code 161 = .ok (.iconst 0, 1) := by decide +kernel
theorem dM_follow_162 : decode prog_11_method_39_code 162 = .ok (.ireturn, 1) := by decide +kernel
theorem dM_follow_163 : decode prog_11_method_39_code 163 = .ok (.aload_n 0, 1) := by decide +kernel
theorem dM_follow_164 : decode prog_11_method_39_code 164 = .ok (.getfield 40, 3) := by decide +kernel
theorem dM_follow_167 : decode prog_11_method_39_code 167 = .ok (.iload_n 2, 1) := by decide +kernel
theorem dM_follow_168 : decode prog_11_method_39_code 168 = .ok (.dup2, 1) := by decide +kernel
theorem dM_follow_169 : decode prog_11_method_39_code 169 = .ok (.iaload, 1) := by decide +kernel
theorem dM_follow_170 : decode prog_11_method_39_code 170 = .ok (.iconst 1, 1) := by decide +kernel
theorem dM_follow_171 : decode prog_11_method_39_code 171 = .ok (.isub, 1) := by decide +kernel
theorem dM_follow_172 : decode prog_11_method_39_code 172 = .ok (.iastore, 1) := by decide +kernel
theorem dM_follow_173 : decode prog_11_method_39_code 173 = .ok (.iconst 1, 1) := by decide +kernel
theorem dM_follow_174 : decode prog_11_method_39_code 174 = .ok (.istore_n 1, 1) := by decide +kernel
theorem dM_follow_175 : decode prog_11_method_39_code 175 = .ok (.iinc 2 (1), 3) := by decide +kernel
theorem dM_follow_178 : decode prog_11_method_39_code 178 = .ok (.goto (-87), 3) := by decide +kernel
theorem dM_follow_181 : decode prog_11_method_39_code 181 = .ok (.goto (-98), 3) := by decide +kernel
theorem dM_follow_184 : decode prog_11_method_39_code 184 = .ok (.iconst 1, 1) := by decide +kernel
theorem dM_follow_185 : decode prog_11_method_39_code 185 = .ok (.ireturn, 1) := by decide +kernel
theorem dM_retime_0 : decode prog_11_method_40_code 0 = .ok (.aload_n 0, 1) := by decide +kernel
theorem dM_retime_1 : decode prog_11_method_40_code 1 = .ok (.aload_n 0, 1) := by decide +kernel
theorem dM_retime_2 : decode prog_11_method_40_code 2 = .ok (.invokevirtual 92, 3) := by decide +kernel
theorem dM_retime_5 : decode prog_11_method_40_code 5 = .ok (.ifCond .ne (7), 3) := by decide +kernel
theorem dM_retime_8 : decode prog_11_method_40_code 8 = .ok (.iconst 1, 1) := by decide +kernel
theorem dM_retime_9 : decode prog_11_method_40_code 9 = .ok (.goto (19), 3) := by decide +kernel
theorem dM_retime_12 : decode prog_11_method_40_code 12 = .ok (.iload_n 1, 1) := by decide +kernel
theorem dM_retime_13 : decode prog_11_method_40_code 13 = .ok (.ifCond .lt (10), 3) := by decide +kernel
theorem dM_retime_16 : decode prog_11_method_40_code 16 = .ok (.iload_n 1, 1) := by decide +kernel
theorem dM_retime_17 : decode prog_11_method_40_code 17 = .ok (.sipush (600), 3) := by decide +kernel
theorem dM_retime_20 : decode prog_11_method_40_code 20 = .ok (.if_icmp .le (7), 3) := by decide +kernel
theorem dM_retime_23 : decode prog_11_method_40_code 23 = .ok (.iconst 2, 1) := by decide +kernel
theorem dM_retime_24 : decode prog_11_method_40_code 24 = .ok (.goto (4), 3) := by decide +kernel
theorem dM_retime_27 : decode prog_11_method_40_code 27 = .ok (.iconst 0, 1) := by decide +kernel
theorem dM_retime_28 : decode prog_11_method_40_code 28 = .ok (.putfield 49, 3) := by decide +kernel
theorem dM_retime_31 : decode prog_11_method_40_code 31 = .ok (.aload_n 0, 1) := by decide +kernel
theorem dM_retime_32 : decode prog_11_method_40_code 32 = .ok (.getfield 49, 3) := by decide +kernel
theorem dM_retime_35 : decode prog_11_method_40_code 35 = .ok (.ifCond .eq (5), 3) := by decide +kernel
theorem dM_retime_38 : decode prog_11_method_40_code 38 = .ok (.iconst 0, 1) := by decide +kernel
theorem dM_retime_39 : decode prog_11_method_40_code 39 = .ok (.ireturn, 1) := by decide +kernel
theorem dM_retime_40 : decode prog_11_method_40_code 40 = .ok (.aload_n 0, 1) := by decide +kernel
theorem dM_retime_41 : decode prog_11_method_40_code 41 = .ok (.invokevirtual 95, 3) := by decide +kernel
theorem dM_retime_44 : decode prog_11_method_40_code 44 = .ok (.aload_n 0, 1) := by decide +kernel
theorem dM_retime_45 : decode prog_11_method_40_code 45 = .ok (.iload_n 1, 1) := by decide +kernel
theorem dM_retime_46 : decode prog_11_method_40_code 46 = .ok (.bipush (6), 2) := by decide +kernel
theorem dM_retime_48 : decode prog_11_method_40_code 48 = .ok (.invokevirtual 110, 3) := by decide +kernel
theorem dM_retime_51 : decode prog_11_method_40_code 51 = .ok (.ifCond .ne (5), 3) := by decide +kernel
theorem dM_retime_54 : decode prog_11_method_40_code 54 = .ok (.iconst 0, 1) := by decide +kernel
theorem dM_retime_55 : decode prog_11_method_40_code 55 = .ok (.ireturn, 1) := by decide +kernel
theorem dM_retime_56 : decode prog_11_method_40_code 56 = .ok (.iconst 2, 1) := by decide +kernel
theorem dM_retime_57 : decode prog_11_method_40_code 57 = .ok (.istore_n 2, 1) := by decide +kernel
theorem dM_retime_58 : decode prog_11_method_40_code 58 = .ok (.aload_n 0, 1) := by decide +kernel
theorem dM_retime_59 : decode prog_11_method_40_code 59 = .ok (.invokevirtual 137, 3) := by decide +kernel
theorem dM_retime_62 : decode prog_11_method_40_code 62 = .ok (.ifCond .ne (31), 3) := by decide +kernel
theorem dM_retime_65 : decode prog_11_method_40_code 65 = .ok (.iconst 1, 1) := by decide +kernel
theorem dM_retime_66 : decode prog_11_method_40_code 66 = .ok (.istore_n 2, 1) := by decide +kernel
theorem dM_retime_67 : decode prog_11_method_40_code 67 = .ok (.aload_n 0, 1) := by decide +kernel
theorem dM_retime_68 : decode prog_11_method_40_code 68 = .ok (.iload_n 1, 1) := by decide +kernel
theorem dM_retime_69 : decode prog_11_method_40_code 69 = .ok (.iconst 0, 1) := by decide +kernel
theorem dM_retime_70 : decode prog_11_method_40_code 70 = .ok (.invokevirtual 110, 3) := by decide +kernel
theorem dM_retime_73 : decode prog_11_method_40_code 73 = .ok (.ifCond .ne (5), 3) := by decide +kernel
theorem dM_retime_76 : decode prog_11_method_40_code 76 = .ok (.iconst 0, 1) := by decide +kernel
theorem dM_retime_77 : decode prog_11_method_40_code 77 = .ok (.ireturn, 1) := by decide +kernel
theorem dM_retime_78 : decode prog_11_method_40_code 78 = .ok (.aload_n 0, 1) := by decide +kernel
theorem dM_retime_79 : decode prog_11_method_40_code 79 = .ok (.invokevirtual 137, 3) := by decide +kernel
theorem dM_retime_82 : decode prog_11_method_40_code 82 = .ok (.istore_n 3, 1) := by decide +kernel
theorem dM_retime_83 : decode prog_11_method_40_code 83 = .ok (.iload_n 3, 1) := by decide +kernel
theorem dM_retime_84 : decode prog_11_method_40_code 84 = .ok (.ifCond .eq (7), 3) := by decide +kernel
theorem dM_retime_87 : decode prog_11_method_40_code 87 = .ok (.iconst 1, 1) := by decide +kernel
theorem dM_retime_88 : decode prog_11_method_40_code 88 = .ok (.goto (4), 3) := by decide +kernel
theorem dM_retime_91 : decode prog_11_method_40_code 91 = .ok (.iconst 0, 1) := by decide +kernel
theorem dM_retime_92 : decode prog_11_method_40_code 92 = .ok (.istore_n 2, 1) := by decide +kernel
theorem dM_retime_93 : decode prog_11_method_40_code 93 = .ok (.iconst 0, 1) := by decide +kernel
theorem dM_retime_94 : decode prog_11_method_40_code 94 = .ok (.istore_n 3, 1) := by decide +kernel
theorem dM_retime_95 : decode prog_11_method_40_code 95 = .ok (.iload_n 3, 1) := by decide +kernel
theorem dM_retime_96 : decode prog_11_method_40_code 96 = .ok (.bipush (27), 2) := by decide +kernel
theorem dM_retime_98 : decode prog_11_method_40_code 98 = .ok (.if_icmp .ge (21), 3) := by decide +kernel
theorem dM_retime_101 : decode prog_11_method_40_code 101 = .ok (.aload_n 0, 1) := by decide +kernel
theorem dM_retime_102 : decode prog_11_method_40_code 102 = .ok (.getfield 19, 3) := by decide +kernel
theorem dM_retime_105 : decode prog_11_method_40_code 105 = .ok (.iload_n 3, 1) := by decide +kernel
theorem dM_retime_106 : decode prog_11_method_40_code 106 = .ok (.aload_n 0, 1) := by decide +kernel
theorem dM_retime_107 : decode prog_11_method_40_code 107 = .ok (.getfield 31, 3) := by decide +kernel
theorem dM_retime_110 : decode prog_11_method_40_code 110 = .ok (.iload_n 3, 1) := by decide +kernel
theorem dM_retime_111 : decode prog_11_method_40_code 111 = .ok (.iaload, 1) := by decide +kernel
theorem dM_retime_112 : decode prog_11_method_40_code 112 = .ok (.iastore, 1) := by decide +kernel
theorem dM_retime_113 : decode prog_11_method_40_code 113 = .ok (.iinc 3 (1), 3) := by decide +kernel
theorem dM_retime_116 : decode prog_11_method_40_code 116 = .ok (.goto (-21), 3) := by decide +kernel
theorem dM_retime_119 : decode prog_11_method_40_code 119 = .ok (.iconst 0, 1) := by decide +kernel
theorem dM_retime_120 : decode prog_11_method_40_code 120 = .ok (.istore_n 3, 1) := by decide +kernel
theorem dM_retime_121 : decode prog_11_method_40_code 121 = .ok (.iload_n 3, 1) := by decide +kernel
theorem dM_retime_122 : decode prog_11_method_40_code 122 = .ok (.sipush (1080), 3) := by decide +kernel
theorem dM_retime_125 : decode prog_11_method_40_code 125 = .ok (.if_icmp .ge (21), 3) := by decide +kernel
theorem dM_retime_128 : decode prog_11_method_40_code 128 = .ok (.aload_n 0, 1) := by decide +kernel
theorem dM_retime_129 : decode prog_11_method_40_code 129 = .ok (.getfield 22, 3) := by decide +kernel
theorem dM_retime_132 : decode prog_11_method_40_code 132 = .ok (.iload_n 3, 1) := by decide +kernel
theorem dM_retime_133 : decode prog_11_method_40_code 133 = .ok (.aload_n 0, 1) := by decide +kernel
theorem dM_retime_134 : decode prog_11_method_40_code 134 = .ok (.getfield 28, 3) := by decide +kernel
theorem dM_retime_137 : decode prog_11_method_40_code 137 = .ok (.iload_n 3, 1) := by decide +kernel
theorem dM_retime_138 : decode prog_11_method_40_code 138 = .ok (.iaload, 1) := by decide +kernel
theorem dM_retime_139 : decode prog_11_method_40_code 139 = .ok (.iastore, 1) := by decide +kernel
theorem dM_retime_140 : decode prog_11_method_40_code 140 = .ok (.iinc 3 (1), 3) := by decide +kernel
theorem dM_retime_143 : decode prog_11_method_40_code 143 = .ok (.goto (-22), 3) := by decide +kernel
theorem dM_retime_146 : decode prog_11_method_40_code 146 = .ok (.iconst 1, 1) := by decide +kernel
theorem dM_retime_147 : decode prog_11_method_40_code 147 = .ok (.istore_n 3, 1) := by decide +kernel
theorem dM_retime_148 : decode prog_11_method_40_code 148 = .ok (.iload_n 3, 1) := by decide +kernel
theorem dM_retime_149 : decode prog_11_method_40_code 149 = .ok (.aload_n 0, 1) := by decide +kernel
theorem dM_retime_150 : decode prog_11_method_40_code 150 = .ok (.getfield 53, 3) := by decide +kernel
theorem dM_retime_153 : decode prog_11_method_40_code 153 = .ok (.if_icmp .gt (21), 3) := by decide +kernel
theorem dM_retime_156 : decode prog_11_method_40_code 156 = .ok (.aload_n 0, 1) := by decide +kernel
theorem dM_retime_157 : decode prog_11_method_40_code 157 = .ok (.getfield 34, 3) := by decide +kernel
theorem dM_retime_160 : decode prog_11_method_40_code 160 = .ok (.iload_n 3, 1) := by decide +kernel
theorem dM_retime_161 : decode prog_11_method_40_code 161 = .ok (.aload_n 0, 1) := by decide +kernel
theorem dM_retime_162 : decode prog_11_method_40_code 162 = .ok (.getfield 37, 3) := by decide +kernel
theorem dM_retime_165 : decode prog_11_method_40_code 165 = .ok (.iload_n 3, 1) := by decide +kernel
theorem dM_retime_166 : decode prog_11_method_40_code 166 = .ok (.iaload, 1) := by decide +kernel
theorem dM_retime_167 : decode prog_11_method_40_code 167 = .ok (.iastore, 1) := by decide +kernel
theorem dM_retime_168 : decode prog_11_method_40_code 168 = .ok (.iinc 3 (1), 3) := by decide +kernel
theorem dM_retime_171 : decode prog_11_method_40_code 171 = .ok (.goto (-23), 3) := by decide +kernel
theorem dM_retime_174 : decode prog_11_method_40_code 174 = .ok (.aload_n 0, 1) := by decide +kernel
theorem dM_retime_175 : decode prog_11_method_40_code 175 = .ok (.invokevirtual 67, 3) := by decide +kernel
theorem dM_retime_178 : decode prog_11_method_40_code 178 = .ok (.iload_n 2, 1) := by decide +kernel
theorem dM_retime_179 : decode prog_11_method_40_code 179 = .ok (.ireturn, 1) := by decide +kernel
theorem dM_label_0 : decode prog_11_method_41_code 0 = .ok (.aload_n 0, 1) := by decide +kernel
theorem dM_label_1 : decode prog_11_method_41_code 1 = .ok (.aload_n 0, 1) := by decide +kernel
theorem dM_label_2 : decode prog_11_method_41_code 2 = .ok (.iload_n 1, 1) := by decide +kernel
theorem dM_label_3 : decode prog_11_method_41_code 3 = .ok (.invokevirtual 60, 3) := by decide +kernel
theorem dM_label_6 : decode prog_11_method_41_code 6 = .ok (.ifCond .eq (7), 3) := by decide +kernel
theorem dM_label_9 : decode prog_11_method_41_code 9 = .ok (.iconst 0, 1) := by decide +kernel
theorem dM_label_10 : decode prog_11_method_41_code 10 = .ok (.goto (4), 3) := by decide +kernel
theorem dM_label_13 : decode prog_11_method_41_code 13 = .ok (.iconst 1, 1) := by decide +kernel
theorem dM_label_14 : decode prog_11_method_41_code 14 = .ok (.putfield 49, 3) := by decide +kernel
theorem dM_label_17 : decode prog_11_method_41_code 17 = .ok (.aload_n 0, 1) := by decide +kernel
theorem dM_label_18 : decode prog_11_method_41_code 18 = .ok (.getfield 49, 3) := by decide +kernel
theorem dM_label_21 : decode prog_11_method_41_code 21 = .ok (.ifCond .ne (12), 3) := by decide +kernel
theorem dM_label_24 : decode prog_11_method_41_code 24 = .ok (.aload_n 0, 1) := by decide +kernel
theorem dM_label_25 : decode prog_11_method_41_code 25 = .ok (.getfield 34, 3) := by decide +kernel
theorem dM_label_28 : decode prog_11_method_41_code 28 = .ok (.iload_n 1, 1) := by decide +kernel
theorem dM_label_29 : decode prog_11_method_41_code 29 = .ok (.iaload, 1) := by decide +kernel
theorem dM_label_30 : decode prog_11_method_41_code 30 = .ok (.goto (4), 3) := by decide +kernel
theorem dM_label_33 : decode prog_11_method_41_code 33 = .ok (.iconst 0, 1) := by decide +kernel
theorem dM_label_34 : decode prog_11_method_41_code 34 = .ok (.ireturn, 1) := by decide +kernel
theorem dM_input_0 : decode prog_11_method_42_code 0 = .ok (.iload_n 1, 1) := by decide +kernel
theorem dM_input_1 : decode prog_11_method_42_code 1 = .ok (.iconst (-1), 1) := by decide +kernel
theorem dM_input_2 : decode prog_11_method_42_code 2 = .ok (.if_icmp .ne (7), 3) := by decide +kernel
theorem dM_input_5 : decode prog_11_method_42_code 5 = .ok (.iload_n 2, 1) := by decide +kernel
theorem dM_input_6 : decode prog_11_method_42_code 6 = .ok (.goto (30), 3) := by decide +kernel
theorem dM_input_9 : decode prog_11_method_42_code 9 = .ok (.iload_n 1, 1) := by decide +kernel
theorem dM_input_10 : decode prog_11_method_42_code 10 = .ok (.bipush (-2), 2) := by decide +kernel
theorem dM_input_12 : decode prog_11_method_42_code 12 = .ok (.if_icmp .ne (7), 3) := by decide +kernel
theorem dM_input_15 : decode prog_11_method_42_code 15 = .ok (.iload_n 3, 1) := by decide +kernel
theorem dM_input_16 : decode prog_11_method_42_code 16 = .ok (.goto (20), 3) := by decide +kernel
theorem dM_input_19 : decode prog_11_method_42_code 19 = .ok (.iload_n 1, 1) := by decide +kernel
theorem dM_input_20 : decode prog_11_method_42_code 20 = .ok (.bipush (-3), 2) := by decide +kernel
theorem dM_input_22 : decode prog_11_method_42_code 22 = .ok (.if_icmp .ne (8), 3) := by decide +kernel
theorem dM_input_25 : decode prog_11_method_42_code 25 = .ok (.iload 4, 2) := by decide +kernel
theorem dM_input_27 : decode prog_11_method_42_code 27 = .ok (.goto (9), 3) := by decide +kernel
theorem dM_input_30 : decode prog_11_method_42_code 30 = .ok (.aload_n 0, 1) := by decide +kernel
theorem dM_input_31 : decode prog_11_method_42_code 31 = .ok (.getfield 46, 3) := by decide +kernel
theorem dM_input_34 : decode prog_11_method_42_code 34 = .ok (.iload_n 1, 1) := by decide +kernel
theorem dM_input_35 : decode prog_11_method_42_code 35 = .ok (.iaload, 1) := by decide +kernel
theorem dM_input_36 : decode prog_11_method_42_code 36 = .ok (.ireturn, 1) := by decide +kernel
theorem dM_tick_0 : decode prog_11_method_43_code 0 = .ok (.iload_n 1, 1) := by decide +kernel
theorem dM_tick_1 : decode prog_11_method_43_code 1 = .ok (.ifCond .lt (30), 3) := by decide +kernel
theorem dM_tick_4 : decode prog_11_method_43_code 4 = .ok (.iload_n 1, 1) := by decide +kernel
theorem dM_tick_5 : decode prog_11_method_43_code 5 = .ok (.iconst 2, 1) := by decide +kernel
theorem dM_tick_6 : decode prog_11_method_43_code 6 = .ok (.if_icmp .gt (25), 3) := by decide +kernel
theorem dM_tick_9 : decode prog_11_method_43_code 9 = .ok (.iload_n 2, 1) := by decide +kernel
theorem dM_tick_10 : decode prog_11_method_43_code 10 = .ok (.ifCond .lt (21), 3) := by decide +kernel
theorem dM_tick_13 : decode prog_11_method_43_code 13 = .ok (.iload_n 2, 1) := by decide +kernel
theorem dM_tick_14 : decode prog_11_method_43_code 14 = .ok (.iconst 2, 1) := by decide +kernel
theorem dM_tick_15 : decode prog_11_method_43_code 15 = .ok (.if_icmp .gt (16), 3) := by decide +kernel
theorem dM_tick_18 : decode prog_11_method_43_code 18 = .ok (.iload_n 3, 1) := by decide +kernel
theorem dM_tick_19 : decode prog_11_method_43_code 19 = .ok (.ifCond .lt (12), 3) := by decide +kernel
theorem dM_tick_22 : decode prog_11_method_43_code 22 = .ok (.iload_n 3, 1) := by decide +kernel
theorem dM_tick_23 : decode prog_11_method_43_code 23 = .ok (.iconst 2, 1) := by decide +kernel
theorem dM_tick_24 : decode prog_11_method_43_code 24 = .ok (.if_icmp .gt (7), 3) := by decide +kernel
theorem dM_tick_27 : decode prog_11_method_43_code 27 = .ok (.iconst 1, 1) := by decide +kernel
theorem dM_tick_28 : decode prog_11_method_43_code 28 = .ok (.goto (4), 3) := by decide +kernel
theorem dM_tick_31 : decode prog_11_method_43_code 31 = .ok (.iconst 0, 1) := by decide +kernel
theorem dM_tick_32 : decode prog_11_method_43_code 32 = .ok (.istore 4, 2) := by decide +kernel
theorem dM_tick_34 : decode prog_11_method_43_code 34 = .ok (.aload_n 0, 1) := by decide +kernel
theorem dM_tick_35 : decode prog_11_method_43_code 35 = .ok (.aload_n 0, 1) := by decide +kernel
theorem dM_tick_36 : decode prog_11_method_43_code 36 = .ok (.invokevirtual 92, 3) := by decide +kernel
theorem dM_tick_39 : decode prog_11_method_43_code 39 = .ok (.ifCond .ne (7), 3) := by decide +kernel
theorem dM_tick_42 : decode prog_11_method_43_code 42 = .ok (.iconst 1, 1) := by decide +kernel
theorem dM_tick_43 : decode prog_11_method_43_code 43 = .ok (.goto (13), 3) := by decide +kernel
theorem dM_tick_46 : decode prog_11_method_43_code 46 = .ok (.iload 4, 2) := by decide +kernel
theorem dM_tick_48 : decode prog_11_method_43_code 48 = .ok (.ifCond .ne (7), 3) := by decide +kernel
theorem dM_tick_51 : decode prog_11_method_43_code 51 = .ok (.iconst 2, 1) := by decide +kernel
theorem dM_tick_52 : decode prog_11_method_43_code 52 = .ok (.goto (4), 3) := by decide +kernel
theorem dM_tick_55 : decode prog_11_method_43_code 55 = .ok (.iconst 0, 1) := by decide +kernel
theorem dM_tick_56 : decode prog_11_method_43_code 56 = .ok (.putfield 49, 3) := by decide +kernel
theorem dM_tick_59 : decode prog_11_method_43_code 59 = .ok (.aload_n 0, 1) := by decide +kernel
theorem dM_tick_60 : decode prog_11_method_43_code 60 = .ok (.getfield 49, 3) := by decide +kernel
theorem dM_tick_63 : decode prog_11_method_43_code 63 = .ok (.ifCond .eq (5), 3) := by decide +kernel
theorem dM_tick_66 : decode prog_11_method_43_code 66 = .ok (.iconst 0, 1) := by decide +kernel
theorem dM_tick_67 : decode prog_11_method_43_code 67 = .ok (.ireturn, 1) := by decide +kernel
theorem dM_tick_68 : decode prog_11_method_43_code 68 = .ok (.iconst 1, 1) := by decide +kernel
theorem dM_tick_69 : decode prog_11_method_43_code 69 = .ok (.istore 5, 2) := by decide +kernel
theorem dM_tick_71 : decode prog_11_method_43_code 71 = .ok (.iload 5, 2) := by decide +kernel
theorem dM_tick_73 : decode prog_11_method_43_code 73 = .ok (.aload_n 0, 1) := by decide +kernel
theorem dM_tick_74 : decode prog_11_method_43_code 74 = .ok (.getfield 53, 3) := by decide +kernel
theorem dM_tick_77 : decode prog_11_method_43_code 77 = .ok (.if_icmp .gt (17), 3) := by decide +kernel
theorem dM_tick_80 : decode prog_11_method_43_code 80 = .ok (.aload_n 0, 1) := by decide +kernel
theorem dM_tick_81 : decode prog_11_method_43_code 81 = .ok (.getfield 46, 3) := by decide +kernel
theorem dM_tick_84 : decode prog_11_method_43_code 84 = .ok (.iload 5, 2) := by decide +kernel
theorem dM_tick_86 : decode prog_11_method_43_code 86 = .ok (.iconst 2, 1) := by decide +kernel
theorem dM_tick_87 : decode prog_11_method_43_code 87 = .ok (.iastore, 1) := by decide +kernel
theorem dM_tick_88 : decode prog_11_method_43_code 88 = .ok (.iinc 5 (1), 3) := by decide +kernel
theorem dM_tick_91 : decode prog_11_method_43_code 91 = .ok (.goto (-20), 3) := by decide +kernel
theorem dM_tick_94 : decode prog_11_method_43_code 94 = .ok (.iconst 0, 1) := by decide +kernel
theorem dM_tick_95 : decode prog_11_method_43_code 95 = .ok (.istore 5, 2) := by decide +kernel
theorem dM_tick_97 : decode prog_11_method_43_code 97 = .ok (.iload 5, 2) := by decide +kernel
theorem dM_tick_99 : decode prog_11_method_43_code 99 = .ok (.aload_n 0, 1) := by decide +kernel
theorem dM_tick_100 : decode prog_11_method_43_code 100 = .ok (.getfield 53, 3) := by decide +kernel
theorem dM_tick_103 : decode prog_11_method_43_code 103 = .ok (.if_icmp .ge (155), 3) := by decide +kernel
theorem dM_tick_106 : decode prog_11_method_43_code 106 = .ok (.iconst 1, 1) := by decide +kernel
theorem dM_tick_107 : decode prog_11_method_43_code 107 = .ok (.istore 6, 2) := by decide +kernel
theorem dM_tick_109 : decode prog_11_method_43_code 109 = .ok (.iload 6, 2) := by decide +kernel
theorem dM_tick_111 : decode prog_11_method_43_code 111 = .ok (.aload_n 0, 1) := by decide +kernel
theorem dM_tick_112 : decode prog_11_method_43_code 112 = .ok (.getfield 53, 3) := by decide +kernel
theorem dM_tick_115 : decode prog_11_method_43_code 115 = .ok (.if_icmp .gt (137), 3) := by decide +kernel
theorem dM_tick_118 : decode prog_11_method_43_code 118 = .ok (.iconst 2, 1) := by decide +kernel
theorem dM_tick_119 : decode prog_11_method_43_code 119 = .ok (.iload 6, 2) := by decide +kernel
theorem dM_tick_121 : decode prog_11_method_43_code 121 = .ok (.imul, 1) := by decide +kernel
theorem dM_tick_122 : decode prog_11_method_43_code 122 = .ok (.iconst 2, 1) := by decide +kernel
theorem dM_tick_123 : decode prog_11_method_43_code 123 = .ok (.isub, 1) := by decide +kernel
theorem dM_tick_124 : decode prog_11_method_43_code 124 = .ok (.istore 7, 2) := by decide +kernel
theorem dM_tick_126 : decode prog_11_method_43_code 126 = .ok (.aload_n 0, 1) := by decide +kernel
theorem dM_tick_127 : decode prog_11_method_43_code 127 = .ok (.getfield 19, 3) := by decide +kernel
theorem dM_tick_130 : decode prog_11_method_43_code 130 = .ok (.iload 7, 2) := by decide +kernel
theorem dM_tick_132 : decode prog_11_method_43_code 132 = .ok (.iaload, 1) := by decide +kernel
theorem dM_tick_133 : decode prog_11_method_43_code 133 = .ok (.ifCond .le (16), 3) := by decide +kernel
theorem dM_tick_136 : decode prog_11_method_43_code 136 = .ok (.aload_n 0, 1) := by decide +kernel
theorem dM_tick_137 : decode prog_11_method_43_code 137 = .ok (.getfield 25, 3) := by decide +kernel
theorem dM_tick_140 : decode prog_11_method_43_code 140 = .ok (.bipush (40), 2) := by decide +kernel
theorem dM_tick_142 : decode prog_11_method_43_code 142 = .ok (.iload 7, 2) := by decide +kernel
theorem dM_tick_144 : decode prog_11_method_43_code 144 = .ok (.imul, 1) := by decide +kernel
theorem dM_tick_145 : decode prog_11_method_43_code 145 = .ok (.iaload, 1) := by decide +kernel
theorem dM_tick_146 : decode prog_11_method_43_code 146 = .ok (.goto (17), 3) := by decide +kernel
theorem dM_tick_149 : decode prog_11_method_43_code 149 = .ok (.aload_n 0, 1) := by decide +kernel
theorem dM_tick_150 : decode prog_11_method_43_code 150 = .ok (.aload_n 0, 1) := by decide +kernel
theorem dM_tick_151 : decode prog_11_method_43_code 151 = .ok (.getfield 16, 3) := by decide +kernel
theorem dM_tick_154 : decode prog_11_method_43_code 154 = .ok (.iload 7, 2) := by decide +kernel
theorem dM_tick_156 : decode prog_11_method_43_code 156 = .ok (.iaload, 1) := by decide +kernel
theorem dM_tick_157 : decode prog_11_method_43_code 157 = .ok (.iload_n 1, 1) := by decide +kernel
theorem dM_tick_158 : decode prog_11_method_43_code 158 = .ok (.iload_n 2, 1) := by decide +kernel
theorem dM_tick_159 : decode prog_11_method_43_code 159 = .ok (.iload_n 3, 1) := by decide +kernel
theorem dM_tick_160 : decode prog_11_method_43_code 160 = .ok (.invokevirtual 140, 3) := by decide +kernel
theorem dM_tick_163 : decode prog_11_method_43_code 163 = .ok (.istore 8, 2) := by decide +kernel
theorem dM_tick_165 : decode prog_11_method_43_code 165 = .ok (.aload_n 0, 1) := by decide +kernel
theorem dM_tick_166 : decode prog_11_method_43_code 166 = .ok (.iload 6, 2) := by decide +kernel
theorem dM_tick_168 : decode prog_11_method_43_code 168 = .ok (.invokevirtual 63, 3) := by decide +kernel
theorem dM_tick_171 : decode prog_11_method_43_code 171 = .ok (.iconst 2, 1) := by decide +kernel
theorem dM_tick_172 : decode prog_11_method_43_code 172 = .ok (.if_icmp .ne (10), 3) := by decide +kernel
theorem dM_tick_175 : decode prog_11_method_43_code 175 = .ok (.iload 7, 2) := by decide +kernel
theorem dM_tick_177 : decode prog_11_method_43_code 177 = .ok (.iconst 1, 1) := by decide +kernel
theorem dM_tick_178 : decode prog_11_method_43_code 178 = .ok (.iadd, 1) := by decide +kernel
theorem dM_tick_179 : decode prog_11_method_43_code 179 = .ok (.goto (5), 3) := by decide +kernel
theorem dM_tick_182 : decode prog_11_method_43_code 182 = .ok (.iload 7, 2) := by decide +kernel
theorem dM_tick_184 : decode prog_11_method_43_code 184 = .ok (.istore 9, 2) := by decide +kernel
theorem dM_tick_186 : decode prog_11_method_43_code 186 = .ok (.aload_n 0, 1) := by decide +kernel
theorem dM_tick_187 : decode prog_11_method_43_code 187 = .ok (.getfield 19, 3) := by decide +kernel
theorem dM_tick_190 : decode prog_11_method_43_code 190 = .ok (.iload 9, 2) := by decide +kernel
theorem dM_tick_192 : decode prog_11_method_43_code 192 = .ok (.iaload, 1) := by decide +kernel
theorem dM_tick_193 : decode prog_11_method_43_code 193 = .ok (.ifCond .le (16), 3) := by decide +kernel
theorem dM_tick_196 : decode prog_11_method_43_code 196 = .ok (.aload_n 0, 1) := by decide +kernel
theorem dM_tick_197 : decode prog_11_method_43_code 197 = .ok (.getfield 25, 3) := by decide +kernel
theorem dM_tick_200 : decode prog_11_method_43_code 200 = .ok (.bipush (40), 2) := by decide +kernel
theorem dM_tick_202 : decode prog_11_method_43_code 202 = .ok (.iload 9, 2) := by decide +kernel
theorem dM_tick_204 : decode prog_11_method_43_code 204 = .ok (.imul, 1) := by decide +kernel
theorem dM_tick_205 : decode prog_11_method_43_code 205 = .ok (.iaload, 1) := by decide +kernel
theorem dM_tick_206 : decode prog_11_method_43_code 206 = .ok (.goto (17), 3) := by decide +kernel
theorem dM_tick_209 : decode prog_11_method_43_code 209 = .ok (.aload_n 0, 1) := by decide +kernel
theorem dM_tick_210 : decode prog_11_method_43_code 210 = .ok (.aload_n 0, 1) := by decide +kernel
theorem dM_tick_211 : decode prog_11_method_43_code 211 = .ok (.getfield 16, 3) := by decide +kernel
theorem dM_tick_214 : decode prog_11_method_43_code 214 = .ok (.iload 9, 2) := by decide +kernel
theorem dM_tick_216 : decode prog_11_method_43_code 216 = .ok (.iaload, 1) := by decide +kernel
theorem dM_tick_217 : decode prog_11_method_43_code 217 = .ok (.iload_n 1, 1) := by decide +kernel
theorem dM_tick_218 : decode prog_11_method_43_code 218 = .ok (.iload_n 2, 1) := by decide +kernel
theorem dM_tick_219 : decode prog_11_method_43_code 219 = .ok (.iload_n 3, 1) := by decide +kernel
theorem dM_tick_220 : decode prog_11_method_43_code 220 = .ok (.invokevirtual 140, 3) := by decide +kernel
theorem dM_tick_223 : decode prog_11_method_43_code 223 = .ok (.istore 10, 2) := by decide +kernel
theorem dM_tick_225 : decode prog_11_method_43_code 225 = .ok (.aload_n 0, 1) := by decide +kernel
theorem dM_tick_226 : decode prog_11_method_43_code 226 = .ok (.getfield 46, 3) := by decide +kernel
theorem dM_tick_229 : decode prog_11_method_43_code 229 = .ok (.iload 6, 2) := by decide +kernel
theorem dM_tick_231 : decode prog_11_method_43_code 231 = .ok (.aload_n 0, 1) := by decide +kernel
theorem dM_tick_232 : decode prog_11_method_43_code 232 = .ok (.getfield 7, 3) := by decide +kernel
theorem dM_tick_235 : decode prog_11_method_43_code 235 = .ok (.iload 6, 2) := by decide +kernel
theorem dM_tick_237 : decode prog_11_method_43_code 237 = .ok (.iaload, 1) := by decide +kernel
theorem dM_tick_238 : decode prog_11_method_43_code 238 = .ok (.iload 8, 2) := by decide +kernel
theorem dM_tick_240 : decode prog_11_method_43_code 240 = .ok (.iload 10, 2) := by decide +kernel
theorem dM_tick_242 : decode prog_11_method_43_code 242 = .ok (.invokestatic 116, 3) := by decide +kernel
theorem dM_tick_245 : decode prog_11_method_43_code 245 = .ok (.iastore, 1) := by decide +kernel
theorem dM_tick_246 : decode prog_11_method_43_code 246 = .ok (.iinc 6 (1), 3) := by decide +kernel
theorem dM_tick_249 : decode prog_11_method_43_code 249 = .ok (.goto (-140), 3) := by decide +kernel
theorem dM_tick_252 : decode prog_11_method_43_code 252 = .ok (.iinc 5 (1), 3) := by decide +kernel
theorem dM_tick_255 : decode prog_11_method_43_code 255 = .ok (.goto (-158), 3) := by decide +kernel
theorem dM_tick_258 : decode prog_11_method_43_code 258 = .ok (.iconst 0, 1) := by decide +kernel
theorem dM_tick_259 : decode prog_11_method_43_code 259 = .ok (.istore 5, 2) := by decide +kernel
theorem dM_tick_261 : decode prog_11_method_43_code 261 = .ok (.iconst 3, 1) := by decide +kernel
theorem dM_tick_262 : decode prog_11_method_43_code 262 = .ok (.istore 6, 2) := by decide +kernel
theorem dM_tick_264 : decode prog_11_method_43_code 264 = .ok (.iload 6, 2) := by decide +kernel
theorem dM_tick_266 : decode prog_11_method_43_code 266 = .ok (.iconst 1, 1) := by decide +kernel
theorem dM_tick_267 : decode prog_11_method_43_code 267 = .ok (.if_icmp .lt (78), 3) := by decide +kernel
theorem dM_tick_270 : decode prog_11_method_43_code 270 = .ok (.bipush (23), 2) := by decide +kernel
theorem dM_tick_272 : decode prog_11_method_43_code 272 = .ok (.iload 6, 2) := by decide +kernel
theorem dM_tick_274 : decode prog_11_method_43_code 274 = .ok (.iadd, 1) := by decide +kernel
theorem dM_tick_275 : decode prog_11_method_43_code 275 = .ok (.istore 7, 2) := by decide +kernel
theorem dM_tick_277 : decode prog_11_method_43_code 277 = .ok (.aload_n 0, 1) := by decide +kernel
theorem dM_tick_278 : decode prog_11_method_43_code 278 = .ok (.getfield 16, 3) := by decide +kernel
theorem dM_tick_281 : decode prog_11_method_43_code 281 = .ok (.iload 7, 2) := by decide +kernel
theorem dM_tick_283 : decode prog_11_method_43_code 283 = .ok (.iaload, 1) := by decide +kernel
theorem dM_tick_284 : decode prog_11_method_43_code 284 = .ok (.ifCond .ne (7), 3) := by decide +kernel
theorem dM_tick_287 : decode prog_11_method_43_code 287 = .ok (.iconst 3, 1) := by decide +kernel
theorem dM_tick_288 : decode prog_11_method_43_code 288 = .ok (.goto (40), 3) := by decide +kernel
theorem dM_tick_291 : decode prog_11_method_43_code 291 = .ok (.aload_n 0, 1) := by decide +kernel
theorem dM_tick_292 : decode prog_11_method_43_code 292 = .ok (.getfield 19, 3) := by decide +kernel
theorem dM_tick_295 : decode prog_11_method_43_code 295 = .ok (.iload 7, 2) := by decide +kernel
theorem dM_tick_297 : decode prog_11_method_43_code 297 = .ok (.iaload, 1) := by decide +kernel
theorem dM_tick_298 : decode prog_11_method_43_code 298 = .ok (.ifCond .le (16), 3) := by decide +kernel
theorem dM_tick_301 : decode prog_11_method_43_code 301 = .ok (.aload_n 0, 1) := by decide +kernel
theorem dM_tick_302 : decode prog_11_method_43_code 302 = .ok (.getfield 25, 3) := by decide +kernel
theorem dM_tick_305 : decode prog_11_method_43_code 305 = .ok (.bipush (40), 2) := by decide +kernel
theorem dM_tick_307 : decode prog_11_method_43_code 307 = .ok (.iload 7, 2) := by decide +kernel
theorem dM_tick_309 : decode prog_11_method_43_code 309 = .ok (.imul, 1) := by decide +kernel
theorem dM_tick_310 : decode prog_11_method_43_code 310 = .ok (.iaload, 1) := by decide +kernel
theorem dM_tick_311 : decode prog_11_method_43_code 311 = .ok (.goto (17), 3) := by decide +kernel
theorem dM_tick_314 : decode prog_11_method_43_code 314 = .ok (.aload_n 0, 1) := by decide +kernel
theorem dM_tick_315 : decode prog_11_method_43_code 315 = .ok (.aload_n 0, 1) := by decide +kernel
theorem dM_tick_316 : decode prog_11_method_43_code 316 = .ok (.getfield 16, 3) := by decide +kernel
theorem dM_tick_319 : decode prog_11_method_43_code 319 = .ok (.iload 7, 2) := by decide +kernel
theorem dM_tick_321 : decode prog_11_method_43_code 321 = .ok (.iaload, 1) := by decide +kernel
theorem dM_tick_322 : decode prog_11_method_43_code 322 = .ok (.iload_n 1, 1) := by decide +kernel
theorem dM_tick_323 : decode prog_11_method_43_code 323 = .ok (.iload_n 2, 1) := by decide +kernel
theorem dM_tick_324 : decode prog_11_method_43_code 324 = .ok (.iload_n 3, 1) := by decide +kernel
theorem dM_tick_325 : decode prog_11_method_43_code 325 = .ok (.invokevirtual 140, 3) := by decide +kernel
theorem dM_tick_328 : decode prog_11_method_43_code 328 = .ok (.istore 8, 2) := by decide +kernel
theorem dM_tick_330 : decode prog_11_method_43_code 330 = .ok (.iconst 4, 1) := by decide +kernel
theorem dM_tick_331 : decode prog_11_method_43_code 331 = .ok (.iload 5, 2) := by decide +kernel
theorem dM_tick_333 : decode prog_11_method_43_code 333 = .ok (.imul, 1) := by decide +kernel
theorem dM_tick_334 : decode prog_11_method_43_code 334 = .ok (.iload 8, 2) := by decide +kernel
theorem dM_tick_336 : decode prog_11_method_43_code 336 = .ok (.iadd, 1) := by decide +kernel
theorem dM_tick_337 : decode prog_11_method_43_code 337 = .ok (.istore 5, 2) := by decide +kernel
theorem dM_tick_339 : decode prog_11_method_43_code 339 = .ok (.iinc 6 (-1), 3) := by decide +kernel
theorem dM_tick_342 : decode prog_11_method_43_code 342 = .ok (.goto (-78), 3) := by decide +kernel
theorem dM_tick_345 : decode prog_11_method_43_code 345 = .ok (.iconst 0, 1) := by decide +kernel
theorem dM_tick_346 : decode prog_11_method_43_code 346 = .ok (.istore 6, 2) := by decide +kernel
theorem dM_tick_348 : decode prog_11_method_43_code 348 = .ok (.iload 6, 2) := by decide +kernel
theorem dM_tick_350 : decode prog_11_method_43_code 350 = .ok (.bipush (27), 2) := by decide +kernel
theorem dM_tick_352 : decode prog_11_method_43_code 352 = .ok (.if_icmp .ge (89), 3) := by decide +kernel
theorem dM_tick_355 : decode prog_11_method_43_code 355 = .ok (.iconst 0, 1) := by decide +kernel
theorem dM_tick_356 : decode prog_11_method_43_code 356 = .ok (.istore 7, 2) := by decide +kernel
theorem dM_tick_358 : decode prog_11_method_43_code 358 = .ok (.iload 7, 2) := by decide +kernel
theorem dM_tick_360 : decode prog_11_method_43_code 360 = .ok (.aload_n 0, 1) := by decide +kernel
theorem dM_tick_361 : decode prog_11_method_43_code 361 = .ok (.getfield 19, 3) := by decide +kernel
theorem dM_tick_364 : decode prog_11_method_43_code 364 = .ok (.iload 6, 2) := by decide +kernel
theorem dM_tick_366 : decode prog_11_method_43_code 366 = .ok (.iaload, 1) := by decide +kernel
theorem dM_tick_367 : decode prog_11_method_43_code 367 = .ok (.if_icmp .ge (68), 3) := by decide +kernel
theorem dM_tick_370 : decode prog_11_method_43_code 370 = .ok (.aload_n 0, 1) := by decide +kernel
theorem dM_tick_371 : decode prog_11_method_43_code 371 = .ok (.getfield 25, 3) := by decide +kernel
theorem dM_tick_374 : decode prog_11_method_43_code 374 = .ok (.bipush (40), 2) := by decide +kernel
theorem dM_tick_376 : decode prog_11_method_43_code 376 = .ok (.iload 6, 2) := by decide +kernel
theorem dM_tick_378 : decode prog_11_method_43_code 378 = .ok (.imul, 1) := by decide +kernel
theorem dM_tick_379 : decode prog_11_method_43_code 379 = .ok (.iload 7, 2) := by decide +kernel
theorem dM_tick_381 : decode prog_11_method_43_code 381 = .ok (.iadd, 1) := by decide +kernel
theorem dM_tick_382 : decode prog_11_method_43_code 382 = .ok (.iload 7, 2) := by decide +kernel
theorem dM_tick_384 : decode prog_11_method_43_code 384 = .ok (.iconst 1, 1) := by decide +kernel
theorem dM_tick_385 : decode prog_11_method_43_code 385 = .ok (.iadd, 1) := by decide +kernel
theorem dM_tick_386 : decode prog_11_method_43_code 386 = .ok (.aload_n 0, 1) := by decide +kernel
theorem dM_tick_387 : decode prog_11_method_43_code 387 = .ok (.getfield 19, 3) := by decide +kernel
theorem dM_tick_390 : decode prog_11_method_43_code 390 = .ok (.iload 6, 2) := by decide +kernel
theorem dM_tick_392 : decode prog_11_method_43_code 392 = .ok (.iaload, 1) := by decide +kernel
theorem dM_tick_393 : decode prog_11_method_43_code 393 = .ok (.if_icmp .ge (21), 3) := by decide +kernel
theorem dM_tick_396 : decode prog_11_method_43_code 396 = .ok (.aload_n 0, 1) := by decide +kernel
theorem dM_tick_397 : decode prog_11_method_43_code 397 = .ok (.getfield 25, 3) := by decide +kernel
theorem dM_tick_400 : decode prog_11_method_43_code 400 = .ok (.bipush (40), 2) := by decide +kernel
theorem dM_tick_402 : decode prog_11_method_43_code 402 = .ok (.iload 6, 2) := by decide +kernel
theorem dM_tick_404 : decode prog_11_method_43_code 404 = .ok (.imul, 1) := by decide +kernel
theorem dM_tick_405 : decode prog_11_method_43_code 405 = .ok (.iload 7, 2) := by decide +kernel
theorem dM_tick_407 : decode prog_11_method_43_code 407 = .ok (.iadd, 1) := by decide +kernel
theorem dM_tick_408 : decode prog_11_method_43_code 408 = .ok (.iconst 1, 1) := by decide +kernel
theorem dM_tick_409 : decode prog_11_method_43_code 409 = .ok (.iadd, 1) := by decide +kernel
theorem dM_tick_410 : decode prog_11_method_43_code 410 = .ok (.iaload, 1) := by decide +kernel
theorem dM_tick_411 : decode prog_11_method_43_code 411 = .ok (.goto (17), 3) := by decide +kernel
theorem dM_tick_414 : decode prog_11_method_43_code 414 = .ok (.aload_n 0, 1) := by decide +kernel
theorem dM_tick_415 : decode prog_11_method_43_code 415 = .ok (.aload_n 0, 1) := by decide +kernel
theorem dM_tick_416 : decode prog_11_method_43_code 416 = .ok (.getfield 16, 3) := by decide +kernel
theorem dM_tick_419 : decode prog_11_method_43_code 419 = .ok (.iload 6, 2) := by decide +kernel
theorem dM_tick_421 : decode prog_11_method_43_code 421 = .ok (.iaload, 1) := by decide +kernel
theorem dM_tick_422 : decode prog_11_method_43_code 422 = .ok (.iload_n 1, 1) := by decide +kernel
theorem dM_tick_423 : decode prog_11_method_43_code 423 = .ok (.iload_n 2, 1) := by decide +kernel
theorem dM_tick_424 : decode prog_11_method_43_code 424 = .ok (.iload_n 3, 1) := by decide +kernel
theorem dM_tick_425 : decode prog_11_method_43_code 425 = .ok (.invokevirtual 140, 3) := by decide +kernel
theorem dM_tick_428 : decode prog_11_method_43_code 428 = .ok (.iastore, 1) := by decide +kernel
theorem dM_tick_429 : decode prog_11_method_43_code 429 = .ok (.iinc 7 (1), 3) := by decide +kernel
theorem dM_tick_432 : decode prog_11_method_43_code 432 = .ok (.goto (-74), 3) := by decide +kernel
theorem dM_tick_435 : decode prog_11_method_43_code 435 = .ok (.iinc 6 (1), 3) := by decide +kernel
theorem dM_tick_438 : decode prog_11_method_43_code 438 = .ok (.goto (-90), 3) := by decide +kernel
theorem dM_tick_441 : decode prog_11_method_43_code 441 = .ok (.iload 5, 2) := by decide +kernel
theorem dM_tick_443 : decode prog_11_method_43_code 443 = .ok (.ireturn, 1) := by decide +kernel
theorem dM_restart_0 : decode prog_11_method_44_code 0 = .ok (.aload_n 0, 1) := by decide +kernel
theorem dM_restart_1 : decode prog_11_method_44_code 1 = .ok (.iconst 0, 1) := by decide +kernel
theorem dM_restart_2 : decode prog_11_method_44_code 2 = .ok (.putfield 49, 3) := by decide +kernel
theorem dM_restart_5 : decode prog_11_method_44_code 5 = .ok (.aload_n 0, 1) := by decide +kernel
theorem dM_restart_6 : decode prog_11_method_44_code 6 = .ok (.invokevirtual 67, 3) := by decide +kernel
theorem dM_restart_9 : decode prog_11_method_44_code 9 = .ok (.return_, 1) := by decide +kernel
end
section
/-! The reference: its picture, its small methods. -/
/-- the reference's picture: 0 the object (thrown, count); 1 kinds, 2 delays, 3 from, 4 many, 5 values, 6 running, 7 tried, 8 triedMany, 9 told, 10 labels, 11 left, 12 costs, 13 out -/
def rp (thr cnt : Int32) (I : Nat → Nat → Int32) : List va_E := [.inr (8, [.int thr, .int cnt, .ref 1, .ref 2, .ref 3, .ref 4, .ref 5, .ref 6, .ref 7, .ref 8, .ref 9, .ref 10, .ref 11, .ref 12, .ref 13]), eI 13 (I 1), eI 13 (I 2), eI 27 (I 3), eI 27 (I 4), eI 1080 (I 5), eI 1080 (I 6), eI 1080 (I 7), eI 27 (I 8), eI 13 (I 9), eI 13 (I 10), eI 13 (I 11), eI 169 (I 12), eI 13 (I 13)]
section RP
variable {thr cnt : Int32} {I : Nat → Nat → Int32}
theorem rp_thr (x : Int32) : (rp thr cnt I).set 0 (.inr (8, [.int x, .int cnt, .ref 1, .ref 2, .ref 3, .ref 4, .ref 5, .ref 6, .ref 7, .ref 8, .ref 9, .ref 10, .ref 11, .ref 12, .ref 13])) = rp x cnt I := rfl
theorem rp_cnt (x : Int32) : (rp thr cnt I).set 0 (.inr (8, [.int thr, .int x, .ref 1, .ref 2, .ref 3, .ref 4, .ref 5, .ref 6, .ref 7, .ref 8, .ref 9, .ref 10, .ref 11, .ref 12, .ref 13])) = rp thr x I := rfl
theorem rp_1 (f : Nat → Int32) : (rp thr cnt I).set 1 (eI 13 f) = rp thr cnt (upI I 1 f) := rfl
theorem rp_2 (f : Nat → Int32) : (rp thr cnt I).set 2 (eI 13 f) = rp thr cnt (upI I 2 f) := rfl
theorem rp_3 (f : Nat → Int32) : (rp thr cnt I).set 3 (eI 27 f) = rp thr cnt (upI I 3 f) := rfl
theorem rp_4 (f : Nat → Int32) : (rp thr cnt I).set 4 (eI 27 f) = rp thr cnt (upI I 4 f) := rfl
theorem rp_5 (f : Nat → Int32) : (rp thr cnt I).set 5 (eI 1080 f) = rp thr cnt (upI I 5 f) := rfl
theorem rp_6 (f : Nat → Int32) : (rp thr cnt I).set 6 (eI 1080 f) = rp thr cnt (upI I 6 f) := rfl
theorem rp_7 (f : Nat → Int32) : (rp thr cnt I).set 7 (eI 1080 f) = rp thr cnt (upI I 7 f) := rfl
theorem rp_8 (f : Nat → Int32) : (rp thr cnt I).set 8 (eI 27 f) = rp thr cnt (upI I 8 f) := rfl
theorem rp_9 (f : Nat → Int32) : (rp thr cnt I).set 9 (eI 13 f) = rp thr cnt (upI I 9 f) := rfl
theorem rp_10 (f : Nat → Int32) : (rp thr cnt I).set 10 (eI 13 f) = rp thr cnt (upI I 10 f) := rfl
theorem rp_11 (f : Nat → Int32) : (rp thr cnt I).set 11 (eI 13 f) = rp thr cnt (upI I 11 f) := rfl
theorem rp_12 (f : Nat → Int32) : (rp thr cnt I).set 12 (eI 169 f) = rp thr cnt (upI I 12 f) := rfl
theorem rp_13 (f : Nat → Int32) : (rp thr cnt I).set 13 (eI 13 f) = rp thr cnt (upI I 13 f) := rfl
end RP
def qM_outer (x : Int32) : Int32 := if -1 < x then 0 else if x < -3 then 0 else 1
theorem le2 (x : Int32) : (2 : Int32) ≤ x ↔ 1 < x := by
  rw [Int32.le_iff_toInt_le, Int32.lt_iff_toInt_lt]
  show (2 : Int) ≤ x.toInt ↔ (1 : Int) < x.toInt
  omega
def qM_place (cnt : Int32) (kd : Nat → Int32) (x y : Int32) : Int32 := if qM_outer x = 0 then (if qP_hasGate cnt x = 0 then -1 else if y < 0 then -1 else if qP_pinsOf kd x ≤ y then -1 else 2 * x - 2 + y) else if ¬ y = 0 then -1 else 23 - x
theorem cM_thrown {thr cnt : Int32} {I : Nat → Nat → Int32} {Q : mx_O → List va_E → Prop} (hQ : Q (.inl (some (.int (thr)))) (rp thr cnt I)) : mx_W mx_K mT mCl jM_thrown (mR 0 0) 0 [.ref 0] [] (rp thr cnt I) Q := by
  refine mx_aload_n dM_thrown_0 rfl ?_
  refine mx_get 8 0 dM_thrown_1 fgM_49 rfl rfl ?_
  refine mx_iret dM_thrown_4 rfl rfl ?_
  exact hQ
theorem cM_isGate {thr cnt : Int32} {I : Nat → Nat → Int32} {Q : mx_O → List va_E → Prop} {x : Int32} (hQ : Q (.inl (some (.int (qP_hasGate cnt x)))) (rp thr cnt I)) : mx_W mx_K mT mCl jM_isGate (mR 0 0) 0 [.ref 0, .int x] [] (rp thr cnt I) Q := by
  refine mx_iload_n dM_isGate_0 rfl ?_
  refine mx_iconst (1) dM_isGate_1 (by decide) ?_
  refine mx_icmp_lt 17 dM_isGate_2 rfl (fun h2 => ?_) (fun h2 => ?_)
  · refine mx_iconst (0) dM_isGate_17 (by decide) ?_
    refine mx_iret dM_isGate_18 rfl rfl ?_
    simpa [qP_hasGate, h2] using hQ
  · refine mx_iload_n dM_isGate_5 rfl ?_
    refine mx_aload_n dM_isGate_6 rfl ?_
    refine mx_get 8 1 dM_isGate_7 fgM_53 rfl rfl ?_
    refine mx_icmp_gt 17 dM_isGate_10 rfl (fun h10 => ?_) (fun h10 => ?_)
    · refine mx_iconst (0) dM_isGate_17 (by decide) ?_
      refine mx_iret dM_isGate_18 rfl rfl ?_
      simpa [qP_hasGate, h2, h10] using hQ
    · refine mx_iconst (1) dM_isGate_13 (by decide) ?_
      refine mx_goto 18 dM_isGate_14 rfl ?_
      refine mx_iret dM_isGate_18 rfl rfl ?_
      simpa [qP_hasGate, h2, h10] using hQ
theorem cM_isOuter {hp : List va_E} {Q : mx_O → List va_E → Prop} {x : Int32} (hQ : Q (.inl (some (.int (qM_outer x)))) (hp)) : mx_W mx_K mT mCl jM_isOuter (mR 0 0) 0 [.int x] [] hp Q := by
  refine mx_iload_n dM_isOuter_0 rfl ?_
  refine mx_iconst (-1) dM_isOuter_1 (by decide) ?_
  refine mx_icmp_gt 15 dM_isOuter_2 rfl (fun h2 => ?_) (fun h2 => ?_)
  · refine mx_iconst (0) dM_isOuter_15 (by decide) ?_
    refine mx_iret dM_isOuter_16 rfl rfl ?_
    simpa [qM_outer, h2] using hQ
  · refine mx_iload_n dM_isOuter_5 rfl ?_
    refine mx_bipush (-3) dM_isOuter_6 (by decide) ?_
    refine mx_icmp_lt 15 dM_isOuter_8 rfl (fun h8 => ?_) (fun h8 => ?_)
    · refine mx_iconst (0) dM_isOuter_15 (by decide) ?_
      refine mx_iret dM_isOuter_16 rfl rfl ?_
      simpa [qM_outer, h2, h8] using hQ
    · refine mx_iconst (1) dM_isOuter_11 (by decide) ?_
      refine mx_goto 16 dM_isOuter_12 rfl ?_
      refine mx_iret dM_isOuter_16 rfl rfl ?_
      simpa [qM_outer, h2, h8] using hQ
theorem cM_pins {thr cnt : Int32} {I : Nat → Nat → Int32} {Q : mx_O → List va_E → Prop} {x : Int32} (hx : vp_in x 13) (hQ : Q (.inl (some (.int (qP_pinsOf (I 1) x)))) (rp thr cnt I)) : mx_W mx_K mT mCl jM_pins (mR 0 0) 0 [.ref 0, .int x] [] (rp thr cnt I) Q := by
  refine mx_aload_n dM_pins_0 rfl ?_
  refine mx_get 8 2 dM_pins_1 fgM_7 rfl rfl ?_
  refine mx_iload_n dM_pins_4 rfl ?_
  refine mx_iald dM_pins_5 rfl hx ?_
  refine mx_iconst (2) dM_pins_6 (by decide) ?_
  refine mx_icmp_ge 14 dM_pins_7 rfl (fun h7 => ?_) (fun h7 => ?_)
  · refine mx_iconst (2) dM_pins_14 (by decide) ?_
    refine mx_iret dM_pins_15 rfl rfl ?_
    first | (rw [show qP_pinsOf (I 1) x = 2 from if_pos ((le2 _).mp h7)] at hQ; exact hQ) | (rw [show qP_pinsOf (I 1) x = 1 from if_neg (fun e => h7 ((le2 _).mpr e))] at hQ; exact hQ)
  · refine mx_iconst (1) dM_pins_10 (by decide) ?_
    refine mx_goto 15 dM_pins_11 rfl ?_
    refine mx_iret dM_pins_15 rfl rfl ?_
    first | (rw [show qP_pinsOf (I 1) x = 2 from if_pos ((le2 _).mp h7)] at hQ; exact hQ) | (rw [show qP_pinsOf (I 1) x = 1 from if_neg (fun e => h7 ((le2 _).mpr e))] at hQ; exact hQ)
theorem cM_place {thr cnt : Int32} {I : Nat → Nat → Int32} {Q : mx_O → List va_E → Prop} {x y : Int32} (hx : qP_hasGate cnt x ≠ 0 → vp_in x 13) (hQ : Q (.inl (some (.int (qM_place cnt (I 1) x y)))) (rp thr cnt I)) : mx_W mx_K mT mCl jM_place (mR 1 21) 0 [.ref 0, .int x, .int y] [] (rp thr cnt I) Q := by
  refine mx_iload_n dM_place_0 rfl ?_
  refine mx_S1 (R' := (mR 0 0)) [_] _ dM_place_1 rfl mT_G jM_isOuter_ok jM_isOuter_v lkM_56 ⟨rfl, rfl, Nat.le_of_ble_eq_true rfl, Nat.le_of_ble_eq_true rfl⟩ rfl rfl (Nat.le_of_ble_eq_true rfl) (Nat.le_of_ble_eq_true rfl) (fun Qc qc => cM_isOuter qc) ?_
  refine mx_if_eq 20 dM_place_4 rfl (fun h4 => ?_) (fun h4 => ?_)
  · refine mx_aload_n dM_place_20 rfl ?_
    refine mx_iload_n dM_place_21 rfl ?_
    refine mx_V1 (R' := (mR 0 0)) [_] _ dM_place_22 rfl mT_G jM_isGate_ok jM_isGate_v lkM_60 ⟨rfl, rfl, Nat.le_of_ble_eq_true rfl, Nat.le_of_ble_eq_true rfl⟩ rfl rfl (Nat.le_of_ble_eq_true rfl) (Nat.le_of_ble_eq_true rfl) rfl rfl rfl (fun Qc qc => cM_isGate qc) ?_
    refine mx_if_eq 51 dM_place_25 rfl (fun h25 => ?_) (fun h25 => ?_)
    · refine mx_iconst (-1) dM_place_51 (by decide) ?_
      refine mx_iret dM_place_52 rfl rfl ?_
      simpa [qM_place, h4, h25] using hQ
    · refine mx_iload_n dM_place_28 rfl ?_
      refine mx_if_lt 51 dM_place_29 rfl (fun h29 => ?_) (fun h29 => ?_)
      · refine mx_iconst (-1) dM_place_51 (by decide) ?_
        refine mx_iret dM_place_52 rfl rfl ?_
        simpa [qM_place, h4, h25, h29] using hQ
      · refine mx_iload_n dM_place_32 rfl ?_
        refine mx_aload_n dM_place_33 rfl ?_
        refine mx_iload_n dM_place_34 rfl ?_
        refine mx_V1 (R' := (mR 0 0)) [_] _ dM_place_35 rfl mT_G jM_pins_ok jM_pins_v lkM_63 ⟨rfl, rfl, Nat.le_of_ble_eq_true rfl, Nat.le_of_ble_eq_true rfl⟩ rfl rfl (Nat.le_of_ble_eq_true rfl) (Nat.le_of_ble_eq_true rfl) rfl rfl rfl (fun Qc qc => cM_pins (hx h25) qc) ?_
        refine mx_icmp_ge 51 dM_place_38 rfl (fun h38 => ?_) (fun h38 => ?_)
        · refine mx_iconst (-1) dM_place_51 (by decide) ?_
          refine mx_iret dM_place_52 rfl rfl ?_
          simpa [qM_place, h4, h25, h29, h38] using hQ
        · refine mx_iconst (2) dM_place_41 (by decide) ?_
          refine mx_iload_n dM_place_42 rfl ?_
          refine mx_imul dM_place_43 ?_
          refine mx_iconst (2) dM_place_44 (by decide) ?_
          refine mx_isub dM_place_45 ?_
          refine mx_iload_n dM_place_46 rfl ?_
          refine mx_iadd dM_place_47 ?_
          refine mx_goto 52 dM_place_48 rfl ?_
          refine mx_iret dM_place_52 rfl rfl ?_
          simpa [qM_place, h4, h25, h29, h38] using hQ
  · refine mx_iload_n dM_place_7 rfl ?_
    refine mx_if_ne 18 dM_place_8 rfl (fun h8 => ?_) (fun h8 => ?_)
    · refine mx_iconst (-1) dM_place_18 (by decide) ?_
      refine mx_iret dM_place_19 rfl rfl ?_
      simpa [qM_place, h4, h8] using hQ
    · refine mx_bipush (23) dM_place_11 (by decide) ?_
      refine mx_iload_n dM_place_13 rfl ?_
      refine mx_isub dM_place_14 ?_
      refine mx_goto 19 dM_place_15 rfl ?_
      refine mx_iret dM_place_19 rfl rfl ?_
      simpa [qM_place, h4, h8] using hQ
def qM_isW (fr : Nat → Int32) (i : Int32) : Int32 := if i < 0 then 0 else if fr i.toNatClampNeg = 0 then 0 else 1
def qM_isR (fr mn : Nat → Int32) (i r : Int32) : Int32 := if qM_isW fr i = 0 then 0 else if r < 0 then 0 else if mn i.toNatClampNeg ≤ r then 0 else 1
theorem cM_isWire {thr cnt : Int32} {I : Nat → Nat → Int32} {Q : mx_O → List va_E → Prop} {i : Int32} (hi : ¬ i < 0 → vp_in i 27) (hQ : Q (.inl (some (.int (qM_isW (I 3) i)))) (rp thr cnt I)) : mx_W mx_K mT mCl jM_isWire (mR 0 0) 0 [.ref 0, .int i] [] (rp thr cnt I) Q := by
  refine mx_iload_n dM_isWire_0 rfl ?_
  refine mx_if_lt 17 dM_isWire_1 rfl (fun h1 => ?_) (fun h1 => ?_)
  · refine mx_iconst (0) dM_isWire_17 (by decide) ?_
    refine mx_iret dM_isWire_18 rfl rfl ?_
    simpa [qM_isW, h1] using hQ
  · refine mx_aload_n dM_isWire_4 rfl ?_
    refine mx_get 8 4 dM_isWire_5 fgM_16 rfl rfl ?_
    refine mx_iload_n dM_isWire_8 rfl ?_
    refine mx_iald dM_isWire_9 rfl (hi h1) ?_
    refine mx_if_eq 17 dM_isWire_10 rfl (fun h10 => ?_) (fun h10 => ?_)
    · refine mx_iconst (0) dM_isWire_17 (by decide) ?_
      refine mx_iret dM_isWire_18 rfl rfl ?_
      simpa [qM_isW, h1, h10] using hQ
    · refine mx_iconst (1) dM_isWire_13 (by decide) ?_
      refine mx_goto 18 dM_isWire_14 rfl ?_
      refine mx_iret dM_isWire_18 rfl rfl ?_
      simpa [qM_isW, h1, h10] using hQ
theorem cM_isRegister {thr cnt : Int32} {I : Nat → Nat → Int32} {Q : mx_O → List va_E → Prop} {i r : Int32} (hi : ¬ i < 0 → vp_in i 27) (hQ : Q (.inl (some (.int (qM_isR (I 3) (I 4) i r)))) (rp thr cnt I)) : mx_W mx_K mT mCl jM_isRegister (mR 1 21) 0 [.ref 0, .int i, .int r] [] (rp thr cnt I) Q := by
  refine mx_aload_n dM_isRegister_0 rfl ?_
  refine mx_iload_n dM_isRegister_1 rfl ?_
  refine mx_V1 (R' := (mR 0 0)) [_] _ dM_isRegister_2 rfl mT_G jM_isWire_ok jM_isWire_v lkM_74 ⟨rfl, rfl, Nat.le_of_ble_eq_true rfl, Nat.le_of_ble_eq_true rfl⟩ rfl rfl (Nat.le_of_ble_eq_true rfl) (Nat.le_of_ble_eq_true rfl) rfl rfl rfl (fun Qc qc => cM_isWire hi qc) ?_
  refine mx_if_eq 26 dM_isRegister_5 rfl (fun h5 => ?_) (fun h5 => ?_)
  · refine mx_iconst (0) dM_isRegister_26 (by decide) ?_
    refine mx_iret dM_isRegister_27 rfl rfl ?_
    simpa [qM_isR, h5] using hQ
  · refine mx_iload_n dM_isRegister_8 rfl ?_
    refine mx_if_lt 26 dM_isRegister_9 rfl (fun h9 => ?_) (fun h9 => ?_)
    · refine mx_iconst (0) dM_isRegister_26 (by decide) ?_
      refine mx_iret dM_isRegister_27 rfl rfl ?_
      simpa [qM_isR, h5, h9] using hQ
    · refine mx_iload_n dM_isRegister_12 rfl ?_
      refine mx_aload_n dM_isRegister_13 rfl ?_
      refine mx_get 8 5 dM_isRegister_14 fgM_19 rfl rfl ?_
      refine mx_iload_n dM_isRegister_17 rfl ?_
      refine mx_iald dM_isRegister_18 rfl (hi (fun e => h5 (by unfold qM_isW; rw [if_pos e]))) ?_
      refine mx_icmp_ge 26 dM_isRegister_19 rfl (fun h19 => ?_) (fun h19 => ?_)
      · refine mx_iconst (0) dM_isRegister_26 (by decide) ?_
        refine mx_iret dM_isRegister_27 rfl rfl ?_
        simpa [qM_isR, h5, h9, h19] using hQ
      · refine mx_iconst (1) dM_isRegister_22 (by decide) ?_
        refine mx_goto 27 dM_isRegister_23 rfl ?_
        refine mx_iret dM_isRegister_27 rfl rfl ?_
        simpa [qM_isR, h5, h9, h19] using hQ
theorem cM_sinkOf {hp : List va_E} {Q : mx_O → List va_E → Prop} {x : Int32} (hQ : Q (.inl (some (.int (qP_gateBefore x)))) (hp)) : mx_W mx_K mT mCl jM_sinkOf (mR 0 0) 0 [.int x] [] hp Q := by
  refine mx_iload_n dM_sinkOf_0 rfl ?_
  refine mx_bipush (24) dM_sinkOf_1 (by decide) ?_
  refine mx_icmp_ge 14 dM_sinkOf_3 rfl (fun h3 => ?_) (fun h3 => ?_)
  · refine mx_iconst (0) dM_sinkOf_14 (by decide) ?_
    refine mx_iret dM_sinkOf_15 rfl rfl ?_
    simpa [qP_gateBefore, h3] using hQ
  · refine mx_iload_n dM_sinkOf_6 rfl ?_
    refine mx_iconst (2) dM_sinkOf_7 (by decide) ?_
    refine mx_idiv dM_sinkOf_8 (by decide) ?_
    refine mx_iconst (1) dM_sinkOf_9 (by decide) ?_
    refine mx_iadd dM_sinkOf_10 ?_
    refine mx_goto 15 dM_sinkOf_11 rfl ?_
    refine mx_iret dM_sinkOf_15 rfl rfl ?_
    simpa [qP_gateBefore, h3] using hQ
theorem cM_begin {thr cnt : Int32} {I : Nat → Nat → Int32} {Q : mx_O → List va_E → Prop} (hQ : Q (.inl none) (rp thr cnt (upI I 6 (I 5)))) : mx_W mx_K mT mCl jM_begin (mR 0 0) 0 [.ref 0, .retAddr 0] [] (rp thr cnt I) Q := by
  have hlp : ∀ n j, j < n → lp (fun j f => upd f j (I 5 j)) n (I 6) j = I 5 j := by
    intro n
    induction n with
    | zero => intro j hj; omega
    | succ n ih =>
      intro j hj
      show upd (lp (fun j f => upd f j (I 5 j)) n (I 6)) n (I 5 n) j = I 5 j
      by_cases e : j = n
      · subst e; exact pk_us
      · rw [pk_un e]; exact ih j (by omega)
  have hloop : ∀ i, i ≤ 1080 → mx_W mx_K mT mCl jM_begin (mR 0 0) 2 [.ref 0, .int (nI i)] [] (rp thr cnt (upI I 6 (lp (fun j f => upd f j (I 5 j)) i (I 6)))) Q := by
    refine lp_down ?_ ?_
    · generalize hf : lp (fun j f => upd f j (I 5 j)) 1080 (I 6) = f
      refine mx_ext (b := 6) (v := (1080, .inl (I 5))) (show (rp thr cnt (upI I 6 f))[6]? = some (eI 1080 f) from rfl) (mx_fi (fun j hj => by rw [← hf]; exact hlp 1080 j hj)) ?_
      refine mx_eqs (hp' := rp thr cnt (upI I 6 (I 5))) rfl rfl rfl (by rw [← upI_upI I 6 f]; rfl) ?_
      refine mx_iload_n dM_begin_2 rfl ?_
      refine mx_sipush (1080) dM_begin_3 (by decide) ?_
      refine mx_icmp_ge 27 dM_begin_6 rfl (fun h6 => ?_) (fun h6 => ?_)
      rotate_left
      · exact absurd (show (1080 : Int32) ≤ nI 1080 by decide) h6
      refine mx_vret dM_begin_27 rfl ?_
      exact hQ
    · intro i hi ih
      have ih : mx_W mx_K mT mCl jM_begin (mR 0 0) 2 [.ref 0, .int (nI (i + 1))] [] (rp thr cnt (upI I 6 (upd (lp (fun j f => upd f j (I 5 j)) i (I 6)) i (I 5 i)))) Q := ih
      generalize lp (fun j f => upd f j (I 5 j)) i (I 6) = f at ih ⊢
      refine mx_iload_n dM_begin_2 rfl ?_
      refine mx_sipush (1080) dM_begin_3 (by decide) ?_
      refine mx_icmp_ge 27 dM_begin_6 rfl (fun h6 => ?_) (fun h6 => ?_)
      · exact absurd h6 (nI_ge (b := 1080) hi (by decide))
      refine mx_aload_n dM_begin_9 rfl ?_
      refine mx_get 8 7 dM_begin_10 fgM_25 rfl rfl ?_
      refine mx_iload_n dM_begin_13 rfl ?_
      refine mx_aload_n dM_begin_14 rfl ?_
      refine mx_get 8 6 dM_begin_15 fgM_22 rfl rfl ?_
      refine mx_iload_n dM_begin_18 rfl ?_
      refine mx_iald dM_begin_19 rfl (vp_in_nI (by omega) (by decide)) ?_
      refine mx_iast dM_begin_20 rfl (vp_in_nI (by omega) (by decide)) ?_
      rw [nI_clamp (by omega)]
      refine mx_iinc dM_begin_21 rfl (mx_inc _) (Nat.le_of_ble_eq_true rfl) rfl ?_
      refine mx_goto 2 dM_begin_24 rfl ?_
      refine mx_eqs rfl rfl rfl ?_ ih
      rw [← upI_upI I 6 f]
      rfl
  refine mx_iconst (0) dM_begin_0 (by decide) ?_
  refine mx_istore_n dM_begin_1 (Nat.le_of_ble_eq_true rfl) rfl ?_
  refine mx_eqs rfl rfl rfl ?_ (hloop 0 (Nat.zero_le _))
  rw [lp_zero, upI_own]
end
section
/-! The reference: gate, wire, hold, held, registers, gates, label, restart, weightOf, delayOf. -/
/-- answer, thrown, count, cells -/
abbrev rR : Type := Int32 × Int32 × Nat × (Nat → Nat → Int32)
def rbeg (I : Nat → Nat → Int32) : Nat → Nat → Int32 := upI I 6 (I 5)
def rGate (c : Nat) (I : Nat → Nat → Int32) (x y : Int32) : rR := if x < 0 then (0, 1, c, I) else if 4 < x then (0, 1, c, I) else if y < 0 then (0, 1, c, I) else if ¬ y ≤ 50 then (0, 1, c, I) else if ¬ nI c = 12 then (nI (c + 1), 0, c + 1, rbeg (upI (upI I 1 (upd (I 1) (c + 1) x)) 2 (upd (I 2) (c + 1) y))) else (0, 2, c, I)
theorem cM_gate {c : Nat} {thr : Int32} {I : Nat → Nat → Int32} {Q : mx_O → List va_E → Prop} (hc : c ≤ 12) {x y : Int32} (hQ : Q (.inl (some (.int (rGate c I x y).1))) (rp (rGate c I x y).2.1 (nI (rGate c I x y).2.2.1) (rGate c I x y).2.2.2)) : mx_W mx_K mT mCl jM_gate (mR 1 21) 0 [.ref 0, .int x, .int y] [] (rp thr (nI c) I) Q := by
  refine mx_aload_n dM_gate_0 rfl ?_
  refine mx_iload_n dM_gate_1 rfl ?_
  refine mx_if_lt 20 dM_gate_2 rfl (fun h2 => ?_) (fun h2 => ?_)
  · refine mx_iconst (1) dM_gate_20 (by decide) ?_
    refine mx_goto 38 dM_gate_21 rfl ?_
    refine mx_put 8 0 (.int) dM_gate_38 fpM_49 rfl (Nat.le_of_ble_eq_true rfl) rfl rfl ?_
    refine mx_aload_n dM_gate_41 rfl ?_
    refine mx_get 8 0 dM_gate_42 fgM_49 rfl rfl ?_
    refine mx_if_eq 50 dM_gate_45 rfl (fun h45 => ?_) (fun h45 => ?_)
    · exact absurd h45 (by decide)
    refine mx_iconst (0) dM_gate_48 (by decide) ?_
    refine mx_iret dM_gate_49 rfl rfl ?_
    have e : rGate c I x y = (0, 1, c, I) := by
      unfold rGate
      (repeat' split) <;> first | rfl | contradiction
    rw [e] at hQ
    exact hQ
  · refine mx_iload_n dM_gate_5 rfl ?_
    refine mx_iconst (4) dM_gate_6 (by decide) ?_
    refine mx_icmp_gt 20 dM_gate_7 rfl (fun h7 => ?_) (fun h7 => ?_)
    · refine mx_iconst (1) dM_gate_20 (by decide) ?_
      refine mx_goto 38 dM_gate_21 rfl ?_
      refine mx_put 8 0 (.int) dM_gate_38 fpM_49 rfl (Nat.le_of_ble_eq_true rfl) rfl rfl ?_
      refine mx_aload_n dM_gate_41 rfl ?_
      refine mx_get 8 0 dM_gate_42 fgM_49 rfl rfl ?_
      refine mx_if_eq 50 dM_gate_45 rfl (fun h45 => ?_) (fun h45 => ?_)
      · exact absurd h45 (by decide)
      refine mx_iconst (0) dM_gate_48 (by decide) ?_
      refine mx_iret dM_gate_49 rfl rfl ?_
      have e : rGate c I x y = (0, 1, c, I) := by
        unfold rGate
        (repeat' split) <;> first | rfl | contradiction
      rw [e] at hQ
      exact hQ
    · refine mx_iload_n dM_gate_10 rfl ?_
      refine mx_if_lt 20 dM_gate_11 rfl (fun h11 => ?_) (fun h11 => ?_)
      · refine mx_iconst (1) dM_gate_20 (by decide) ?_
        refine mx_goto 38 dM_gate_21 rfl ?_
        refine mx_put 8 0 (.int) dM_gate_38 fpM_49 rfl (Nat.le_of_ble_eq_true rfl) rfl rfl ?_
        refine mx_aload_n dM_gate_41 rfl ?_
        refine mx_get 8 0 dM_gate_42 fgM_49 rfl rfl ?_
        refine mx_if_eq 50 dM_gate_45 rfl (fun h45 => ?_) (fun h45 => ?_)
        · exact absurd h45 (by decide)
        refine mx_iconst (0) dM_gate_48 (by decide) ?_
        refine mx_iret dM_gate_49 rfl rfl ?_
        have e : rGate c I x y = (0, 1, c, I) := by
          unfold rGate
          (repeat' split) <;> first | rfl | contradiction
        rw [e] at hQ
        exact hQ
      · refine mx_iload_n dM_gate_14 rfl ?_
        refine mx_bipush (50) dM_gate_15 (by decide) ?_
        refine mx_icmp_le 24 dM_gate_17 rfl (fun h17 => ?_) (fun h17 => ?_)
        · refine mx_aload_n dM_gate_24 rfl ?_
          refine mx_get 8 1 dM_gate_25 fgM_53 rfl rfl ?_
          refine mx_bipush (12) dM_gate_28 (by decide) ?_
          refine mx_icmp_ne 37 dM_gate_30 rfl (fun h30 => ?_) (fun h30 => ?_)
          · refine mx_iconst (0) dM_gate_37 (by decide) ?_
            refine mx_put 8 0 (.int) dM_gate_38 fpM_49 rfl (Nat.le_of_ble_eq_true rfl) rfl rfl ?_
            refine mx_aload_n dM_gate_41 rfl ?_
            refine mx_get 8 0 dM_gate_42 fgM_49 rfl rfl ?_
            refine mx_if_eq 50 dM_gate_45 rfl (fun h45 => ?_) (fun h45 => ?_)
            rotate_left
            · exact absurd rfl h45
            have hlt : c < 12 := by
              have : ¬ c = 12 := fun e => h30 (by rw [e]; rfl)
              omega
            refine mx_aload_n dM_gate_50 rfl ?_
            refine mx_dup dM_gate_51 rfl ?_
            refine mx_get 8 1 dM_gate_52 fgM_53 rfl rfl ?_
            refine mx_iconst (1) dM_gate_55 (by decide) ?_
            refine mx_iadd dM_gate_56 ?_
            refine mx_put 8 1 (.int) dM_gate_57 fpM_53 rfl (Nat.le_of_ble_eq_true rfl) rfl rfl ?_
            rw [nI_1]
            refine mx_eqs rfl rfl rfl (rp_cnt _) ?_
            refine mx_aload_n dM_gate_60 rfl ?_
            refine mx_get 8 2 dM_gate_61 fgM_7 rfl rfl ?_
            refine mx_aload_n dM_gate_64 rfl ?_
            refine mx_get 8 1 dM_gate_65 fgM_53 rfl rfl ?_
            refine mx_iload_n dM_gate_68 rfl ?_
            refine mx_iast dM_gate_69 rfl (vp_in_nI (by omega) (by decide)) ?_
            rw [nI_clamp (by omega)]
            refine mx_eqs rfl rfl rfl (rp_1 _) ?_
            refine mx_aload_n dM_gate_70 rfl ?_
            refine mx_get 8 3 dM_gate_71 fgM_13 rfl rfl ?_
            refine mx_aload_n dM_gate_74 rfl ?_
            refine mx_get 8 1 dM_gate_75 fgM_53 rfl rfl ?_
            refine mx_iload_n dM_gate_78 rfl ?_
            refine mx_iast dM_gate_79 rfl (vp_in_nI (by omega) (by decide)) ?_
            rw [nI_clamp (by omega)]
            refine mx_eqs rfl rfl rfl (rp_2 _) ?_
            refine mx_aload_n dM_gate_80 rfl ?_
            refine mx_V1 (R' := (mR 0 0)) [] _ dM_gate_81 rfl mT_G jM_begin_ok jM_begin_v lkM_67 ⟨rfl, rfl, Nat.le_of_ble_eq_true rfl, Nat.le_of_ble_eq_true rfl⟩ rfl rfl (Nat.le_of_ble_eq_true rfl) (Nat.le_of_ble_eq_true rfl) rfl rfl rfl (fun Qc qc => cM_begin qc) ?_
            refine mx_aload_n dM_gate_84 rfl ?_
            refine mx_get 8 1 dM_gate_85 fgM_53 rfl rfl ?_
            refine mx_iret dM_gate_88 rfl rfl ?_
            have e : rGate c I x y = (nI (c + 1), 0, c + 1, rbeg (upI (upI I 1 (upd (I 1) (c + 1) x)) 2 (upd (I 2) (c + 1) y))) := by
              unfold rGate
              (repeat' split) <;> first | rfl | contradiction
            rw [e] at hQ
            exact hQ
          · refine mx_iconst (2) dM_gate_33 (by decide) ?_
            refine mx_goto 38 dM_gate_34 rfl ?_
            refine mx_put 8 0 (.int) dM_gate_38 fpM_49 rfl (Nat.le_of_ble_eq_true rfl) rfl rfl ?_
            refine mx_aload_n dM_gate_41 rfl ?_
            refine mx_get 8 0 dM_gate_42 fgM_49 rfl rfl ?_
            refine mx_if_eq 50 dM_gate_45 rfl (fun h45 => ?_) (fun h45 => ?_)
            · exact absurd h45 (by decide)
            refine mx_iconst (0) dM_gate_48 (by decide) ?_
            refine mx_iret dM_gate_49 rfl rfl ?_
            have e : rGate c I x y = (0, 2, c, I) := by
              unfold rGate
              (repeat' split) <;> first | rfl | contradiction
            rw [e] at hQ
            exact hQ
        · refine mx_iconst (1) dM_gate_20 (by decide) ?_
          refine mx_goto 38 dM_gate_21 rfl ?_
          refine mx_put 8 0 (.int) dM_gate_38 fpM_49 rfl (Nat.le_of_ble_eq_true rfl) rfl rfl ?_
          refine mx_aload_n dM_gate_41 rfl ?_
          refine mx_get 8 0 dM_gate_42 fgM_49 rfl rfl ?_
          refine mx_if_eq 50 dM_gate_45 rfl (fun h45 => ?_) (fun h45 => ?_)
          · exact absurd h45 (by decide)
          refine mx_iconst (0) dM_gate_48 (by decide) ?_
          refine mx_iret dM_gate_49 rfl rfl ?_
          have e : rGate c I x y = (0, 1, c, I) := by
            unfold rGate
            (repeat' split) <;> first | rfl | contradiction
          rw [e] at hQ
          exact hQ
def vFill (w : Nat) (f : Nat → Int32) : Nat → Int32 := lp (fun k f => upd f (40 * w + k) 2) 40 f
def rWnew (I : Nat → Nat → Int32) (w : Nat) (x r : Int32) : Nat → Nat → Int32 := rbeg (upI (upI (upI I 3 (upd (I 3) w x)) 4 (upd (I 4) w r)) 5 (vFill w (I 5)))
def rEnd (cnt x : Int32) : Bool := if ¬ qP_hasGate cnt x = 0 then true else if qM_outer x = 0 then false else true
def rWire (c : Nat) (I : Nat → Nat → Int32) (x s y r : Int32) : Int32 × (Nat → Nat → Int32) := if (rEnd (nI c) x && rEnd (nI c) s) = true then (if qM_place (nI c) (I 1) s y < 0 then (2, I) else if r < 0 then (2, I) else if ¬ r ≤ 4 then (2, I) else (0, rWnew I (qM_place (nI c) (I 1) s y).toNatClampNeg x r)) else (1, I)
theorem qM_place_eq {c : Nat} {kd : Nat → Int32} {x y : Int32} (hc : c ≤ 12) : qM_place (nI c) kd x y = qP_placeOf (nI c) kd x y := by
  unfold qM_place qP_placeOf
  have hpt : qM_outer x = qP_isPort x := by
    unfold qM_outer qP_isPort
    (repeat' split) <;> first | rfl | contradiction
  rw [hpt]
  have hneg : ¬ 0 ≤ y ↔ y < 0 := by
    rw [Int32.le_iff_toInt_le, Int32.lt_iff_toInt_lt]
    show ¬ (0 : Int) ≤ y.toInt ↔ y.toInt < 0
    omega
  by_cases hg : qP_hasGate (nI c) x = 0
  · rw [if_pos hg, if_pos hg]
    by_cases h0 : 0 ≤ y
    · rw [if_pos h0]
    · rw [if_neg h0]
      by_cases h1 : qP_isPort x = 0
      · rw [if_pos h1]
      · rw [if_neg h1, if_pos (fun e => h0 (by rw [e]; decide))]
  · have hp0 : qP_isPort x = 0 := by
      obtain ⟨u, u1, u2, rfl⟩ := hasG hc hg
      unfold qP_isPort
      rw [if_neg, if_pos]
      · rw [Int32.lt_iff_toInt_lt, nI_toInt (by omega)]; show (-1 : Int) < u; omega
      · rw [Int32.lt_iff_toInt_lt, nI_toInt (by omega)]; show ¬ (u : Int) < -3; omega
    rw [if_pos hp0, if_neg hg, if_neg hg]
    have hm : 2 * x - 2 + y = qP_firstPin x + y := by
      obtain ⟨u, u1, u2, rfl⟩ := hasG hc hg
      rw [fp_nat u1, show (2 : Int32) = nI 2 from rfl, pk_mul, pk_sub (by omega)]
    rw [hm]
    by_cases h0 : 0 ≤ y
    · rw [if_pos h0, if_neg (fun e => (hneg.mpr e) h0)]
    · rw [if_neg h0, if_pos (hneg.mp h0)]
theorem place_neg {c : Nat} {kd : Nat → Int32} {x y : Int32} (hc : c ≤ 12) : (qM_place (nI c) kd x y < 0 ↔ qM_place (nI c) kd x y = -1) ∧ (¬ qM_place (nI c) kd x y < 0 → ∃ w, w < 27 ∧ qM_place (nI c) kd x y = nI w) := by
  rw [qM_place_eq hc]
  by_cases h : qP_placeOf (nI c) kd x y = -1
  · rw [h]
    exact ⟨⟨fun _ => rfl, fun _ => by decide⟩, fun e => absurd (by decide) e⟩
  · obtain ⟨w, hw, e⟩ := place_in hc h
    refine ⟨⟨fun e2 => ?_, fun e2 => absurd e2 h⟩, fun _ => ⟨w, hw, e⟩⟩
    rw [e] at e2
    exact absurd e2 (nI_pos (by omega))
theorem place_vp {c : Nat} {kd : Nat → Int32} {x y : Int32} (hc : c ≤ 12) : ¬ qM_place (nI c) kd x y < 0 → vp_in (qM_place (nI c) kd x y) 27 := fun h => by
  obtain ⟨w, hw, e⟩ := (place_neg hc).2 h
  rw [e]
  exact vp_in_nI hw (by decide)
theorem cM_wire {c : Nat} {thr : Int32} {I : Nat → Nat → Int32} {Q : mx_O → List va_E → Prop} (hc : c ≤ 12) {x s y r : Int32} (hQ : Q (.inl none) (rp (rWire c I x s y r).1 (nI c) (rWire c I x s y r).2)) : mx_W mx_K mT mCl jM_wire (mR 2 43) 0 [.ref 0, .int x, .int s, .int y, .int r, .retAddr 0, .retAddr 0, .retAddr 0] [] (rp thr (nI c) I) Q := by
  have hloop : ∀ (e : Int32) (w : Nat) (I : Nat → Nat → Int32), w < 27 → Q (.inl none) (rp 0 (nI c) (rbeg (upI I 5 (vFill w (I 5))))) → ∀ i, i ≤ 40 → mx_W mx_K mT mCl jM_wire (mR 2 43) 107 [.ref 0, .int x, .int s, .int y, .int r, .int e, .int (nI w), .int (nI i)] [] (rp 0 (nI c) (upI I 5 (lp (fun k f => upd f (40 * w + k) 2) i (I 5)))) Q := by
    intro e w I hw hq
    refine lp_down ?_ ?_
    · refine mx_iload dM_wire_107 rfl ?_
      refine mx_bipush (40) dM_wire_109 (by decide) ?_
      refine mx_icmp_ge 134 dM_wire_111 rfl (fun h111 => ?_) (fun h111 => ?_)
      rotate_left
      · exact absurd (show (40 : Int32) ≤ nI 40 by decide) h111
      refine mx_aload_n dM_wire_134 rfl ?_
      refine mx_V1 (R' := (mR 0 0)) [] _ dM_wire_135 rfl mT_G jM_begin_ok jM_begin_v lkM_67 ⟨rfl, rfl, Nat.le_of_ble_eq_true rfl, Nat.le_of_ble_eq_true rfl⟩ rfl rfl (Nat.le_of_ble_eq_true rfl) (Nat.le_of_ble_eq_true rfl) rfl rfl rfl (fun Qc qc => cM_begin qc) ?_
      refine mx_vret dM_wire_138 rfl ?_
      unfold vFill at hq
      exact hq
    · intro i hi ih
      have ih : mx_W mx_K mT mCl jM_wire (mR 2 43) 107 [.ref 0, .int x, .int s, .int y, .int r, .int e, .int (nI w), .int (nI (i + 1))] [] (rp 0 (nI c) (upI I 5 (upd (lp (fun k f => upd f (40 * w + k) 2) i (I 5)) (40 * w + i) 2))) Q := ih
      generalize lp (fun k f => upd f (40 * w + k) 2) i (I 5) = f at ih ⊢
      refine mx_iload dM_wire_107 rfl ?_
      refine mx_bipush (40) dM_wire_109 (by decide) ?_
      refine mx_icmp_ge 134 dM_wire_111 rfl (fun h111 => ?_) (fun h111 => ?_)
      · exact absurd h111 (nI_ge (b := 40) hi (by decide))
      refine mx_aload_n dM_wire_114 rfl ?_
      refine mx_get 8 6 dM_wire_115 fgM_22 rfl rfl ?_
      refine mx_bipush (40) dM_wire_118 (by decide) ?_
      refine mx_iload dM_wire_120 rfl ?_
      refine mx_imul dM_wire_122 ?_
      refine mx_iload dM_wire_123 rfl ?_
      refine mx_iadd dM_wire_125 ?_
      rw [show (40 : Int32) = nI 40 from rfl, pk_mul, nI_add]
      refine mx_iconst (2) dM_wire_126 (by decide) ?_
      refine mx_iast dM_wire_127 rfl (vp_in_nI (by omega) (by decide)) ?_
      rw [nI_clamp (by omega)]
      refine mx_iinc dM_wire_128 rfl (mx_inc _) (Nat.le_of_ble_eq_true rfl) rfl ?_
      refine mx_goto 107 dM_wire_131 rfl ?_
      refine mx_eqs rfl rfl rfl ?_ ih
      rw [← upI_upI I 5 f]
      rfl
  have hpl := place_neg (kd := I 1) (x := s) (y := y) hc
  have e1 : ∀ z : Int32, ¬ qP_hasGate (nI c) z = 0 → rEnd (nI c) z = true := fun z h => by unfold rEnd; rw [if_pos h]
  have e2 : ∀ z : Int32, qP_hasGate (nI c) z = 0 → ¬ qM_outer z = 0 → rEnd (nI c) z = true := fun z h h2 => by unfold rEnd; rw [if_neg (fun q => q h), if_neg h2]
  have e3 : ∀ z : Int32, qP_hasGate (nI c) z = 0 → qM_outer z = 0 → rEnd (nI c) z = false := fun z h h2 => by unfold rEnd; rw [if_neg (fun q => q h), if_pos h2]
  have hno : (rEnd (nI c) x && rEnd (nI c) s) = false → mx_W mx_K mT mCl jM_wire (mR 2 43) 34 [.ref 0, .int x, .int s, .int y, .int r, .retAddr 0, .retAddr 0, .retAddr 0] [] (rp thr (nI c) I) Q := by
    intro hf
    unfold rWire at hQ
    rw [hf, if_neg (by decide)] at hQ
    refine mx_iconst (0) dM_wire_34 (by decide) ?_
    refine mx_istore dM_wire_35 (Nat.le_of_ble_eq_true rfl) rfl ?_
    refine mx_aload_n dM_wire_37 rfl ?_
    refine mx_iload_n dM_wire_38 rfl ?_
    refine mx_iload_n dM_wire_39 rfl ?_
    refine mx_V1 (R' := (mR 1 21)) [_, _] _ dM_wire_40 rfl mT_G jM_place_ok jM_place_v lkM_70 ⟨rfl, rfl, Nat.le_of_ble_eq_true rfl, Nat.le_of_ble_eq_true rfl⟩ rfl rfl (Nat.le_of_ble_eq_true rfl) (Nat.le_of_ble_eq_true rfl) rfl rfl rfl (fun Qc qc => cM_place (fun hg => by obtain ⟨u, _, _, rfl⟩ := hasG hc hg; exact vp_in_nI (by omega) (by decide)) qc) ?_
    refine mx_istore dM_wire_43 (Nat.le_of_ble_eq_true rfl) rfl ?_
    refine mx_aload_n dM_wire_45 rfl ?_
    refine mx_iload dM_wire_46 rfl ?_
    refine mx_if_ne 55 dM_wire_48 rfl (fun h48 => ?_) (fun h48 => ?_)
    · exact absurd rfl h48
    refine mx_iconst (1) dM_wire_51 (by decide) ?_
    refine mx_goto 76 dM_wire_52 rfl ?_
    refine mx_put 8 0 (.int) dM_wire_76 fpM_49 rfl (Nat.le_of_ble_eq_true rfl) rfl rfl ?_
    refine mx_aload_n dM_wire_79 rfl ?_
    refine mx_get 8 0 dM_wire_80 fgM_49 rfl rfl ?_
    refine mx_if_eq 87 dM_wire_83 rfl (fun h83 => ?_) (fun h83 => ?_)
    · exact absurd h83 (by decide)
    refine mx_vret dM_wire_86 rfl ?_
    exact hQ
  have hyes : (rEnd (nI c) x && rEnd (nI c) s) = true → mx_W mx_K mT mCl jM_wire (mR 2 43) 30 [.ref 0, .int x, .int s, .int y, .int r, .retAddr 0, .retAddr 0, .retAddr 0] [] (rp thr (nI c) I) Q := by
    intro ht
    unfold rWire at hQ
    rw [ht, if_pos rfl] at hQ
    refine mx_iconst (1) dM_wire_30 (by decide) ?_
    refine mx_goto 35 dM_wire_31 rfl ?_
    refine mx_istore dM_wire_35 (Nat.le_of_ble_eq_true rfl) rfl ?_
    refine mx_aload_n dM_wire_37 rfl ?_
    refine mx_iload_n dM_wire_38 rfl ?_
    refine mx_iload_n dM_wire_39 rfl ?_
    refine mx_V1 (R' := (mR 1 21)) [_, _] _ dM_wire_40 rfl mT_G jM_place_ok jM_place_v lkM_70 ⟨rfl, rfl, Nat.le_of_ble_eq_true rfl, Nat.le_of_ble_eq_true rfl⟩ rfl rfl (Nat.le_of_ble_eq_true rfl) (Nat.le_of_ble_eq_true rfl) rfl rfl rfl (fun Qc qc => cM_place (fun hg => by obtain ⟨u, _, _, rfl⟩ := hasG hc hg; exact vp_in_nI (by omega) (by decide)) qc) ?_
    refine mx_istore dM_wire_43 (Nat.le_of_ble_eq_true rfl) rfl ?_
    refine mx_aload_n dM_wire_45 rfl ?_
    refine mx_iload dM_wire_46 rfl ?_
    refine mx_if_ne 55 dM_wire_48 rfl (fun h48 => ?_) (fun h48 => ?_)
    rotate_left
    · exact absurd h48 (by decide)
    refine mx_iload dM_wire_55 rfl ?_
    refine mx_if_lt 71 dM_wire_57 rfl (fun h57 => ?_) (fun h57 => ?_)
    · refine mx_iconst (2) dM_wire_71 (by decide) ?_
      refine mx_goto 76 dM_wire_72 rfl ?_
      refine mx_put 8 0 (.int) dM_wire_76 fpM_49 rfl (Nat.le_of_ble_eq_true rfl) rfl rfl ?_
      refine mx_aload_n dM_wire_79 rfl ?_
      refine mx_get 8 0 dM_wire_80 fgM_49 rfl rfl ?_
      refine mx_if_eq 87 dM_wire_83 rfl (fun h83 => ?_) (fun h83 => ?_)
      · exact absurd h83 (by decide)
      refine mx_vret dM_wire_86 rfl ?_
      first | (rw [if_pos h57] at hQ; exact hQ) | (rw [if_neg h57, if_pos h62] at hQ; exact hQ) | (rw [if_neg h57, if_neg h62, if_pos h68] at hQ; exact hQ)
    · refine mx_iload dM_wire_60 rfl ?_
      refine mx_if_lt 71 dM_wire_62 rfl (fun h62 => ?_) (fun h62 => ?_)
      · refine mx_iconst (2) dM_wire_71 (by decide) ?_
        refine mx_goto 76 dM_wire_72 rfl ?_
        refine mx_put 8 0 (.int) dM_wire_76 fpM_49 rfl (Nat.le_of_ble_eq_true rfl) rfl rfl ?_
        refine mx_aload_n dM_wire_79 rfl ?_
        refine mx_get 8 0 dM_wire_80 fgM_49 rfl rfl ?_
        refine mx_if_eq 87 dM_wire_83 rfl (fun h83 => ?_) (fun h83 => ?_)
        · exact absurd h83 (by decide)
        refine mx_vret dM_wire_86 rfl ?_
        first | (rw [if_pos h57] at hQ; exact hQ) | (rw [if_neg h57, if_pos h62] at hQ; exact hQ) | (rw [if_neg h57, if_neg h62, if_pos h68] at hQ; exact hQ)
      · refine mx_iload dM_wire_65 rfl ?_
        refine mx_iconst (4) dM_wire_67 (by decide) ?_
        refine mx_icmp_le 75 dM_wire_68 rfl (fun h68 => ?_) (fun h68 => ?_)
        · refine mx_iconst (0) dM_wire_75 (by decide) ?_
          refine mx_put 8 0 (.int) dM_wire_76 fpM_49 rfl (Nat.le_of_ble_eq_true rfl) rfl rfl ?_
          refine mx_aload_n dM_wire_79 rfl ?_
          refine mx_get 8 0 dM_wire_80 fgM_49 rfl rfl ?_
          refine mx_if_eq 87 dM_wire_83 rfl (fun h83 => ?_) (fun h83 => ?_)
          rotate_left
          · exact absurd rfl h83
          obtain ⟨w, hw, ew⟩ := hpl.2 h57
          rw [if_neg h57, if_neg h62, if_neg (fun q => q h68), ew, nI_clamp (by omega)] at hQ
          rw [ew]
          refine mx_aload_n dM_wire_87 rfl ?_
          refine mx_get 8 4 dM_wire_88 fgM_16 rfl rfl ?_
          refine mx_iload dM_wire_91 rfl ?_
          refine mx_iload_n dM_wire_93 rfl ?_
          refine mx_iast dM_wire_94 rfl (vp_in_nI (by omega) (by decide)) ?_
          rw [nI_clamp (by omega)]
          refine mx_eqs rfl rfl rfl (rp_3 _) ?_
          refine mx_aload_n dM_wire_95 rfl ?_
          refine mx_get 8 5 dM_wire_96 fgM_19 rfl rfl ?_
          refine mx_iload dM_wire_99 rfl ?_
          refine mx_iload dM_wire_101 rfl ?_
          refine mx_iast dM_wire_103 rfl (vp_in_nI (by omega) (by decide)) ?_
          rw [nI_clamp (by omega)]
          refine mx_eqs rfl rfl rfl (rp_4 _) ?_
          refine mx_iconst (0) dM_wire_104 (by decide) ?_
          refine mx_istore dM_wire_105 (Nat.le_of_ble_eq_true rfl) rfl ?_
          refine mx_eqs rfl rfl rfl ?_ (hloop _ w (upI (upI I 3 (upd (I 3) w x)) 4 (upd (I 4) w r)) hw hQ 0 (Nat.zero_le _))
          rw [lp_zero, upI_own]
          rfl
        · refine mx_iconst (2) dM_wire_71 (by decide) ?_
          refine mx_goto 76 dM_wire_72 rfl ?_
          refine mx_put 8 0 (.int) dM_wire_76 fpM_49 rfl (Nat.le_of_ble_eq_true rfl) rfl rfl ?_
          refine mx_aload_n dM_wire_79 rfl ?_
          refine mx_get 8 0 dM_wire_80 fgM_49 rfl rfl ?_
          refine mx_if_eq 87 dM_wire_83 rfl (fun h83 => ?_) (fun h83 => ?_)
          · exact absurd h83 (by decide)
          refine mx_vret dM_wire_86 rfl ?_
          first | (rw [if_pos h57] at hQ; exact hQ) | (rw [if_neg h57, if_pos h62] at hQ; exact hQ) | (rw [if_neg h57, if_neg h62, if_pos h68] at hQ; exact hQ)
  refine mx_aload_n dM_wire_0 rfl ?_
  refine mx_iload_n dM_wire_1 rfl ?_
  refine mx_V1 (R' := (mR 0 0)) [_] _ dM_wire_2 rfl mT_G jM_isGate_ok jM_isGate_v lkM_60 ⟨rfl, rfl, Nat.le_of_ble_eq_true rfl, Nat.le_of_ble_eq_true rfl⟩ rfl rfl (Nat.le_of_ble_eq_true rfl) (Nat.le_of_ble_eq_true rfl) rfl rfl rfl (fun Qc qc => cM_isGate qc) ?_
  refine mx_if_ne 15 dM_wire_5 rfl (fun h5 => ?_) (fun h5 => ?_)
  · refine mx_aload_n dM_wire_15 rfl ?_
    refine mx_iload_n dM_wire_16 rfl ?_
    refine mx_V1 (R' := (mR 0 0)) [_] _ dM_wire_17 rfl mT_G jM_isGate_ok jM_isGate_v lkM_60 ⟨rfl, rfl, Nat.le_of_ble_eq_true rfl, Nat.le_of_ble_eq_true rfl⟩ rfl rfl (Nat.le_of_ble_eq_true rfl) (Nat.le_of_ble_eq_true rfl) rfl rfl rfl (fun Qc qc => cM_isGate qc) ?_
    refine mx_if_ne 30 dM_wire_20 rfl (fun h20 => ?_) (fun h20 => ?_)
    · refine hyes ?_
      refine Bool.and_eq_true_iff.mpr ⟨?_, ?_⟩
      · first | exact e1 x h5 | exact e2 x h5 h12
      · first | exact e1 s h20 | exact e2 s h20 h27
    · refine mx_iload_n dM_wire_23 rfl ?_
      refine mx_S1 (R' := (mR 0 0)) [_] _ dM_wire_24 rfl mT_G jM_isOuter_ok jM_isOuter_v lkM_56 ⟨rfl, rfl, Nat.le_of_ble_eq_true rfl, Nat.le_of_ble_eq_true rfl⟩ rfl rfl (Nat.le_of_ble_eq_true rfl) (Nat.le_of_ble_eq_true rfl) (fun Qc qc => cM_isOuter qc) ?_
      refine mx_if_eq 34 dM_wire_27 rfl (fun h27 => ?_) (fun h27 => ?_)
      · refine hno ?_
        first | (rw [e3 x h5 h12]; rfl) | (rw [e3 s h20 h27, Bool.and_false])
      · refine hyes ?_
        refine Bool.and_eq_true_iff.mpr ⟨?_, ?_⟩
        · first | exact e1 x h5 | exact e2 x h5 h12
        · first | exact e1 s h20 | exact e2 s h20 h27
  · refine mx_iload_n dM_wire_8 rfl ?_
    refine mx_S1 (R' := (mR 0 0)) [_] _ dM_wire_9 rfl mT_G jM_isOuter_ok jM_isOuter_v lkM_56 ⟨rfl, rfl, Nat.le_of_ble_eq_true rfl, Nat.le_of_ble_eq_true rfl⟩ rfl rfl (Nat.le_of_ble_eq_true rfl) (Nat.le_of_ble_eq_true rfl) (fun Qc qc => cM_isOuter qc) ?_
    refine mx_if_eq 34 dM_wire_12 rfl (fun h12 => ?_) (fun h12 => ?_)
    · refine hno ?_
      first | (rw [e3 x h5 h12]; rfl) | (rw [e3 s h20 h27, Bool.and_false])
    · refine mx_aload_n dM_wire_15 rfl ?_
      refine mx_iload_n dM_wire_16 rfl ?_
      refine mx_V1 (R' := (mR 0 0)) [_] _ dM_wire_17 rfl mT_G jM_isGate_ok jM_isGate_v lkM_60 ⟨rfl, rfl, Nat.le_of_ble_eq_true rfl, Nat.le_of_ble_eq_true rfl⟩ rfl rfl (Nat.le_of_ble_eq_true rfl) (Nat.le_of_ble_eq_true rfl) rfl rfl rfl (fun Qc qc => cM_isGate qc) ?_
      refine mx_if_ne 30 dM_wire_20 rfl (fun h20 => ?_) (fun h20 => ?_)
      · refine hyes ?_
        refine Bool.and_eq_true_iff.mpr ⟨?_, ?_⟩
        · first | exact e1 x h5 | exact e2 x h5 h12
        · first | exact e1 s h20 | exact e2 s h20 h27
      · refine mx_iload_n dM_wire_23 rfl ?_
        refine mx_S1 (R' := (mR 0 0)) [_] _ dM_wire_24 rfl mT_G jM_isOuter_ok jM_isOuter_v lkM_56 ⟨rfl, rfl, Nat.le_of_ble_eq_true rfl, Nat.le_of_ble_eq_true rfl⟩ rfl rfl (Nat.le_of_ble_eq_true rfl) (Nat.le_of_ble_eq_true rfl) (fun Qc qc => cM_isOuter qc) ?_
        refine mx_if_eq 34 dM_wire_27 rfl (fun h27 => ?_) (fun h27 => ?_)
        · refine hno ?_
          first | (rw [e3 x h5 h12]; rfl) | (rw [e3 s h20 h27, Bool.and_false])
        · refine hyes ?_
          refine Bool.and_eq_true_iff.mpr ⟨?_, ?_⟩
          · first | exact e1 x h5 | exact e2 x h5 h12
          · first | exact e1 s h20 | exact e2 s h20 h27
end
