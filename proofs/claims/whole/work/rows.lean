section
-- ===== PART A: goes FIRST, ahead of the names: the tables' words, and 'selects' of the private methods out of them =====
/-- a private method of a class that the tables say can be made, by its rows of tables_1 -/
def lw_okq (q : MethodName × Nat) : Prop := (q.1.cls ≠ "java/lang/invoke/MethodHandle" ∧ q.1.cls ≠ "java/lang/invoke/VarHandle") ∧ Cond.instantiable q.1.cls q.2 ∈ tables_1 ∧ Cond.privateMethod q.1 ∈ tables_1 ∧ Cond.instanceMethod q.1 ∈ tables_1
theorem lw_p0 : lw_okq (⟨"MaskedThrows", "putOnTape", "(I)V"⟩, 7) := ⟨⟨by decide +kernel, by decide +kernel⟩, List.mem_of_getElem? (i := 17) (by decide +kernel), List.mem_of_getElem? (i := 367) (by decide +kernel), List.mem_of_getElem? (i := 368) (by decide +kernel)⟩
theorem lw_p1 : lw_okq (⟨"MaskedThrows$Tokens", "addLetters", "([III)V"⟩, 4) := ⟨⟨by decide +kernel, by decide +kernel⟩, List.mem_of_getElem? (i := 31) (by decide +kernel), List.mem_of_getElem? (i := 390) (by decide +kernel), List.mem_of_getElem? (i := 391) (by decide +kernel)⟩
theorem lw_p2 : lw_okq (⟨"MaskedThrows$Tokens", "addToken", "(III)V"⟩, 4) := ⟨⟨by decide +kernel, by decide +kernel⟩, List.mem_of_getElem? (i := 31) (by decide +kernel), List.mem_of_getElem? (i := 441) (by decide +kernel), List.mem_of_getElem? (i := 442) (by decide +kernel)⟩
theorem lw_p3 : lw_okq (⟨"MaskedThrows$Tokens", "addDigits", "([III)V"⟩, 4) := ⟨⟨by decide +kernel, by decide +kernel⟩, List.mem_of_getElem? (i := 31) (by decide +kernel), List.mem_of_getElem? (i := 448) (by decide +kernel), List.mem_of_getElem? (i := 449) (by decide +kernel)⟩
theorem lw_p4 : lw_okq (⟨"MaskedThrows$Parser", "statements", "(III)Z"⟩, 3) := ⟨⟨by decide +kernel, by decide +kernel⟩, List.mem_of_getElem? (i := 25) (by decide +kernel), List.mem_of_getElem? (i := 468) (by decide +kernel), List.mem_of_getElem? (i := 469) (by decide +kernel)⟩
theorem lw_p5 : lw_okq (⟨"MaskedThrows$Parser", "statement", "(I)Z"⟩, 3) := ⟨⟨by decide +kernel, by decide +kernel⟩, List.mem_of_getElem? (i := 25) (by decide +kernel), List.mem_of_getElem? (i := 472) (by decide +kernel), List.mem_of_getElem? (i := 473) (by decide +kernel)⟩
theorem lw_p6 : lw_okq (⟨"MaskedThrows$Parser", "isLocal", "(I)Z"⟩, 3) := ⟨⟨by decide +kernel, by decide +kernel⟩, List.mem_of_getElem? (i := 25) (by decide +kernel), List.mem_of_getElem? (i := 483) (by decide +kernel), List.mem_of_getElem? (i := 484) (by decide +kernel)⟩
theorem lw_p7 : lw_okq (⟨"MaskedThrows$Parser", "is", "(I)Z"⟩, 3) := ⟨⟨by decide +kernel, by decide +kernel⟩, List.mem_of_getElem? (i := 25) (by decide +kernel), List.mem_of_getElem? (i := 487) (by decide +kernel), List.mem_of_getElem? (i := 488) (by decide +kernel)⟩
theorem lw_p8 : lw_okq (⟨"MaskedThrows$Parser", "isExpOf", "(I)Z"⟩, 3) := ⟨⟨by decide +kernel, by decide +kernel⟩, List.mem_of_getElem? (i := 25) (by decide +kernel), List.mem_of_getElem? (i := 491) (by decide +kernel), List.mem_of_getElem? (i := 492) (by decide +kernel)⟩
theorem lw_p9 : lw_okq (⟨"MaskedThrows$Parser", "isExp", "(I)Z"⟩, 3) := ⟨⟨by decide +kernel, by decide +kernel⟩, List.mem_of_getElem? (i := 25) (by decide +kernel), List.mem_of_getElem? (i := 495) (by decide +kernel), List.mem_of_getElem? (i := 496) (by decide +kernel)⟩
theorem lw_p10 : lw_okq (⟨"MaskedThrows$Parser", "isSum", "(I)Z"⟩, 3) := ⟨⟨by decide +kernel, by decide +kernel⟩, List.mem_of_getElem? (i := 25) (by decide +kernel), List.mem_of_getElem? (i := 499) (by decide +kernel), List.mem_of_getElem? (i := 500) (by decide +kernel)⟩
theorem lw_p11 : lw_okq (⟨"MaskedThrows$Parser", "isProduct", "(I)Z"⟩, 3) := ⟨⟨by decide +kernel, by decide +kernel⟩, List.mem_of_getElem? (i := 25) (by decide +kernel), List.mem_of_getElem? (i := 503) (by decide +kernel), List.mem_of_getElem? (i := 504) (by decide +kernel)⟩
theorem lw_p12 : lw_okq (⟨"MaskedThrows$Parser", "isUnary", "(I)Z"⟩, 3) := ⟨⟨by decide +kernel, by decide +kernel⟩, List.mem_of_getElem? (i := 25) (by decide +kernel), List.mem_of_getElem? (i := 507) (by decide +kernel), List.mem_of_getElem? (i := 508) (by decide +kernel)⟩
theorem lw_p13 : lw_okq (⟨"MaskedThrows$Parser", "isCondition", "(I)Z"⟩, 3) := ⟨⟨by decide +kernel, by decide +kernel⟩, List.mem_of_getElem? (i := 25) (by decide +kernel), List.mem_of_getElem? (i := 515) (by decide +kernel), List.mem_of_getElem? (i := 516) (by decide +kernel)⟩
theorem lw_p14 : lw_okq (⟨"MaskedThrows$Parser", "isBody", "(III)Z"⟩, 3) := ⟨⟨by decide +kernel, by decide +kernel⟩, List.mem_of_getElem? (i := 25) (by decide +kernel), List.mem_of_getElem? (i := 519) (by decide +kernel), List.mem_of_getElem? (i := 520) (by decide +kernel)⟩
theorem lw_p15 : lw_okq (⟨"MaskedThrows$Parser", "mayHaveElse", "(II)Z"⟩, 3) := ⟨⟨by decide +kernel, by decide +kernel⟩, List.mem_of_getElem? (i := 25) (by decide +kernel), List.mem_of_getElem? (i := 526) (by decide +kernel), List.mem_of_getElem? (i := 527) (by decide +kernel)⟩
def lw_privs_1 : List (MethodName × Nat) := [(⟨"MaskedThrows", "putOnTape", "(I)V"⟩, 7), (⟨"MaskedThrows$Tokens", "addLetters", "([III)V"⟩, 4), (⟨"MaskedThrows$Tokens", "addToken", "(III)V"⟩, 4), (⟨"MaskedThrows$Tokens", "addDigits", "([III)V"⟩, 4), (⟨"MaskedThrows$Parser", "statements", "(III)Z"⟩, 3), (⟨"MaskedThrows$Parser", "statement", "(I)Z"⟩, 3), (⟨"MaskedThrows$Parser", "isLocal", "(I)Z"⟩, 3), (⟨"MaskedThrows$Parser", "is", "(I)Z"⟩, 3), (⟨"MaskedThrows$Parser", "isExpOf", "(I)Z"⟩, 3), (⟨"MaskedThrows$Parser", "isExp", "(I)Z"⟩, 3), (⟨"MaskedThrows$Parser", "isSum", "(I)Z"⟩, 3), (⟨"MaskedThrows$Parser", "isProduct", "(I)Z"⟩, 3), (⟨"MaskedThrows$Parser", "isUnary", "(I)Z"⟩, 3), (⟨"MaskedThrows$Parser", "isCondition", "(I)Z"⟩, 3), (⟨"MaskedThrows$Parser", "isBody", "(III)Z"⟩, 3), (⟨"MaskedThrows$Parser", "mayHaveElse", "(II)Z"⟩, 3)]
theorem lw_r1 : ∀ q ∈ lw_privs_1, lw_okq q := List.forall_mem_cons.mpr ⟨lw_p0, List.forall_mem_cons.mpr ⟨lw_p1, List.forall_mem_cons.mpr ⟨lw_p2, List.forall_mem_cons.mpr ⟨lw_p3, List.forall_mem_cons.mpr ⟨lw_p4, List.forall_mem_cons.mpr ⟨lw_p5, List.forall_mem_cons.mpr ⟨lw_p6, List.forall_mem_cons.mpr ⟨lw_p7, List.forall_mem_cons.mpr ⟨lw_p8, List.forall_mem_cons.mpr ⟨lw_p9, List.forall_mem_cons.mpr ⟨lw_p10, List.forall_mem_cons.mpr ⟨lw_p11, List.forall_mem_cons.mpr ⟨lw_p12, List.forall_mem_cons.mpr ⟨lw_p13, List.forall_mem_cons.mpr ⟨lw_p14, List.forall_mem_cons.mpr ⟨lw_p15, fun _ h => absurd h List.not_mem_nil⟩⟩⟩⟩⟩⟩⟩⟩⟩⟩⟩⟩⟩⟩⟩⟩
theorem lw_p16 : lw_okq (⟨"MaskedThrows$Parser", "isNumberOf", "(III)Z"⟩, 3) := ⟨⟨by decide +kernel, by decide +kernel⟩, List.mem_of_getElem? (i := 25) (by decide +kernel), List.mem_of_getElem? (i := 530) (by decide +kernel), List.mem_of_getElem? (i := 531) (by decide +kernel)⟩
theorem lw_p17 : lw_okq (⟨"MaskedThrows", "isProgram", "(I)Z"⟩, 7) := ⟨⟨by decide +kernel, by decide +kernel⟩, List.mem_of_getElem? (i := 17) (by decide +kernel), List.mem_of_getElem? (i := 544) (by decide +kernel), List.mem_of_getElem? (i := 545) (by decide +kernel)⟩
theorem lw_p18 : lw_okq (⟨"MaskedThrows", "runs", "(I)Z"⟩, 7) := ⟨⟨by decide +kernel, by decide +kernel⟩, List.mem_of_getElem? (i := 17) (by decide +kernel), List.mem_of_getElem? (i := 555) (by decide +kernel), List.mem_of_getElem? (i := 556) (by decide +kernel)⟩
theorem lw_p19 : lw_okq (⟨"MaskedThrows$Fiber", "leaveAll", "()V"⟩, 15) := ⟨⟨by decide +kernel, by decide +kernel⟩, List.mem_of_getElem? (i := 180) (by decide +kernel), List.mem_of_getElem? (i := 567) (by decide +kernel), List.mem_of_getElem? (i := 568) (by decide +kernel)⟩
theorem lw_p20 : lw_okq (⟨"MaskedThrows$World", "step", "(LMaskedThrows$Fiber;)I"⟩, 5) := ⟨⟨by decide +kernel, by decide +kernel⟩, List.mem_of_getElem? (i := 136) (by decide +kernel), List.mem_of_getElem? (i := 595) (by decide +kernel), List.mem_of_getElem? (i := 596) (by decide +kernel)⟩
theorem lw_p21 : lw_okq (⟨"MaskedThrows$Fiber", "goOver", "(LMaskedThrows$Body;II)V"⟩, 15) := ⟨⟨by decide +kernel, by decide +kernel⟩, List.mem_of_getElem? (i := 180) (by decide +kernel), List.mem_of_getElem? (i := 607) (by decide +kernel), List.mem_of_getElem? (i := 608) (by decide +kernel)⟩
theorem lw_p22 : lw_okq (⟨"MaskedThrows$Fiber", "goToLast", "(LMaskedThrows$Body;)V"⟩, 15) := ⟨⟨by decide +kernel, by decide +kernel⟩, List.mem_of_getElem? (i := 180) (by decide +kernel), List.mem_of_getElem? (i := 620) (by decide +kernel), List.mem_of_getElem? (i := 621) (by decide +kernel)⟩
theorem lw_p23 : lw_okq (⟨"MaskedThrows$Fiber", "leave", "()V"⟩, 15) := ⟨⟨by decide +kernel, by decide +kernel⟩, List.mem_of_getElem? (i := 180) (by decide +kernel), List.mem_of_getElem? (i := 625) (by decide +kernel), List.mem_of_getElem? (i := 626) (by decide +kernel)⟩
theorem lw_p24 : lw_okq (⟨"MaskedThrows$Fiber", "forgetTimeout", "(LMaskedThrows$Body;)V"⟩, 15) := ⟨⟨by decide +kernel, by decide +kernel⟩, List.mem_of_getElem? (i := 180) (by decide +kernel), List.mem_of_getElem? (i := 629) (by decide +kernel), List.mem_of_getElem? (i := 630) (by decide +kernel)⟩
theorem lw_p25 : lw_okq (⟨"MaskedThrows$World", "takeFromRow", "(LMaskedThrows$Fiber;)I"⟩, 5) := ⟨⟨by decide +kernel, by decide +kernel⟩, List.mem_of_getElem? (i := 136) (by decide +kernel), List.mem_of_getElem? (i := 645) (by decide +kernel), List.mem_of_getElem? (i := 646) (by decide +kernel)⟩
theorem lw_p26 : lw_okq (⟨"MaskedThrows$World", "breakSend", "(LMaskedThrows$Fiber;)V"⟩, 5) := ⟨⟨by decide +kernel, by decide +kernel⟩, List.mem_of_getElem? (i := 136) (by decide +kernel), List.mem_of_getElem? (i := 649) (by decide +kernel), List.mem_of_getElem? (i := 650) (by decide +kernel)⟩
theorem lw_p27 : lw_okq (⟨"MaskedThrows$World", "perform", "(LMaskedThrows$Fiber;I)I"⟩, 5) := ⟨⟨by decide +kernel, by decide +kernel⟩, List.mem_of_getElem? (i := 136) (by decide +kernel), List.mem_of_getElem? (i := 664) (by decide +kernel), List.mem_of_getElem? (i := 665) (by decide +kernel)⟩
theorem lw_p28 : lw_okq (⟨"MaskedThrows$World", "takeFromBox", "(LMaskedThrows$Fiber;I)I"⟩, 5) := ⟨⟨by decide +kernel, by decide +kernel⟩, List.mem_of_getElem? (i := 136) (by decide +kernel), List.mem_of_getElem? (i := 680) (by decide +kernel), List.mem_of_getElem? (i := 681) (by decide +kernel)⟩
theorem lw_p29 : lw_okq (⟨"MaskedThrows$World", "waits", "(LMaskedThrows$Fiber;I)Z"⟩, 5) := ⟨⟨by decide +kernel, by decide +kernel⟩, List.mem_of_getElem? (i := 136) (by decide +kernel), List.mem_of_getElem? (i := 684) (by decide +kernel), List.mem_of_getElem? (i := 685) (by decide +kernel)⟩
theorem lw_p30 : lw_okq (⟨"MaskedThrows$World", "putInBox", "(LMaskedThrows$Fiber;I)I"⟩, 5) := ⟨⟨by decide +kernel, by decide +kernel⟩, List.mem_of_getElem? (i := 136) (by decide +kernel), List.mem_of_getElem? (i := 688) (by decide +kernel), List.mem_of_getElem? (i := 689) (by decide +kernel)⟩
theorem lw_p31 : lw_okq (⟨"MaskedThrows$World", "sendValue", "(LMaskedThrows$Fiber;I)I"⟩, 5) := ⟨⟨by decide +kernel, by decide +kernel⟩, List.mem_of_getElem? (i := 136) (by decide +kernel), List.mem_of_getElem? (i := 695) (by decide +kernel), List.mem_of_getElem? (i := 696) (by decide +kernel)⟩
def lw_privs_2 : List (MethodName × Nat) := [(⟨"MaskedThrows$Parser", "isNumberOf", "(III)Z"⟩, 3), (⟨"MaskedThrows", "isProgram", "(I)Z"⟩, 7), (⟨"MaskedThrows", "runs", "(I)Z"⟩, 7), (⟨"MaskedThrows$Fiber", "leaveAll", "()V"⟩, 15), (⟨"MaskedThrows$World", "step", "(LMaskedThrows$Fiber;)I"⟩, 5), (⟨"MaskedThrows$Fiber", "goOver", "(LMaskedThrows$Body;II)V"⟩, 15), (⟨"MaskedThrows$Fiber", "goToLast", "(LMaskedThrows$Body;)V"⟩, 15), (⟨"MaskedThrows$Fiber", "leave", "()V"⟩, 15), (⟨"MaskedThrows$Fiber", "forgetTimeout", "(LMaskedThrows$Body;)V"⟩, 15), (⟨"MaskedThrows$World", "takeFromRow", "(LMaskedThrows$Fiber;)I"⟩, 5), (⟨"MaskedThrows$World", "breakSend", "(LMaskedThrows$Fiber;)V"⟩, 5), (⟨"MaskedThrows$World", "perform", "(LMaskedThrows$Fiber;I)I"⟩, 5), (⟨"MaskedThrows$World", "takeFromBox", "(LMaskedThrows$Fiber;I)I"⟩, 5), (⟨"MaskedThrows$World", "waits", "(LMaskedThrows$Fiber;I)Z"⟩, 5), (⟨"MaskedThrows$World", "putInBox", "(LMaskedThrows$Fiber;I)I"⟩, 5), (⟨"MaskedThrows$World", "sendValue", "(LMaskedThrows$Fiber;I)I"⟩, 5)]
theorem lw_r2 : ∀ q ∈ lw_privs_2, lw_okq q := List.forall_mem_cons.mpr ⟨lw_p16, List.forall_mem_cons.mpr ⟨lw_p17, List.forall_mem_cons.mpr ⟨lw_p18, List.forall_mem_cons.mpr ⟨lw_p19, List.forall_mem_cons.mpr ⟨lw_p20, List.forall_mem_cons.mpr ⟨lw_p21, List.forall_mem_cons.mpr ⟨lw_p22, List.forall_mem_cons.mpr ⟨lw_p23, List.forall_mem_cons.mpr ⟨lw_p24, List.forall_mem_cons.mpr ⟨lw_p25, List.forall_mem_cons.mpr ⟨lw_p26, List.forall_mem_cons.mpr ⟨lw_p27, List.forall_mem_cons.mpr ⟨lw_p28, List.forall_mem_cons.mpr ⟨lw_p29, List.forall_mem_cons.mpr ⟨lw_p30, List.forall_mem_cons.mpr ⟨lw_p31, fun _ h => absurd h List.not_mem_nil⟩⟩⟩⟩⟩⟩⟩⟩⟩⟩⟩⟩⟩⟩⟩⟩
theorem lw_p32 : lw_okq (⟨"MaskedThrows$Fiber", "stops", "(LMaskedThrows$Body;)Z"⟩, 15) := ⟨⟨by decide +kernel, by decide +kernel⟩, List.mem_of_getElem? (i := 180) (by decide +kernel), List.mem_of_getElem? (i := 705) (by decide +kernel), List.mem_of_getElem? (i := 706) (by decide +kernel)⟩
theorem lw_p33 : lw_okq (⟨"MaskedThrows$Fiber", "perish", "()I"⟩, 15) := ⟨⟨by decide +kernel, by decide +kernel⟩, List.mem_of_getElem? (i := 180) (by decide +kernel), List.mem_of_getElem? (i := 710) (by decide +kernel), List.mem_of_getElem? (i := 711) (by decide +kernel)⟩
theorem lw_p34 : lw_okq (⟨"MaskedThrows", "isInRow", "(II)Z"⟩, 7) := ⟨⟨by decide +kernel, by decide +kernel⟩, List.mem_of_getElem? (i := 17) (by decide +kernel), List.mem_of_getElem? (i := 764) (by decide +kernel), List.mem_of_getElem? (i := 765) (by decide +kernel)⟩
theorem lw_p35 : lw_okq (⟨"MaskedThrows$World", "wouldStep", "(LMaskedThrows$Fiber;)Z"⟩, 5) := ⟨⟨by decide +kernel, by decide +kernel⟩, List.mem_of_getElem? (i := 136) (by decide +kernel), List.mem_of_getElem? (i := 780) (by decide +kernel), List.mem_of_getElem? (i := 781) (by decide +kernel)⟩
theorem lw_p36 : lw_okq (⟨"MaskedThrows", "isNote", "(I)Z"⟩, 7) := ⟨⟨by decide +kernel, by decide +kernel⟩, List.mem_of_getElem? (i := 17) (by decide +kernel), List.mem_of_getElem? (i := 808) (by decide +kernel), List.mem_of_getElem? (i := 809) (by decide +kernel)⟩
theorem lw_p37 : lw_okq (⟨"MaskedThrowsModel", "readText", "()V"⟩, 69) := ⟨⟨by decide +kernel, by decide +kernel⟩, List.mem_of_getElem? (i := 825) (by decide +kernel), List.mem_of_getElem? (i := 1051) (by decide +kernel), List.mem_of_getElem? (i := 1052) (by decide +kernel)⟩
theorem lw_p38 : lw_okq (⟨"MaskedThrowsModel", "next", "()V"⟩, 69) := ⟨⟨by decide +kernel, by decide +kernel⟩, List.mem_of_getElem? (i := 825) (by decide +kernel), List.mem_of_getElem? (i := 1055) (by decide +kernel), List.mem_of_getElem? (i := 1056) (by decide +kernel)⟩
theorem lw_p39 : lw_okq (⟨"MaskedThrowsModel", "byteAt", "(I)I"⟩, 69) := ⟨⟨by decide +kernel, by decide +kernel⟩, List.mem_of_getElem? (i := 825) (by decide +kernel), List.mem_of_getElem? (i := 1059) (by decide +kernel), List.mem_of_getElem? (i := 1060) (by decide +kernel)⟩
theorem lw_p40 : lw_okq (⟨"MaskedThrowsModel", "isSign", "(I)Z"⟩, 69) := ⟨⟨by decide +kernel, by decide +kernel⟩, List.mem_of_getElem? (i := 825) (by decide +kernel), List.mem_of_getElem? (i := 1096) (by decide +kernel), List.mem_of_getElem? (i := 1097) (by decide +kernel)⟩
theorem lw_p41 : lw_okq (⟨"MaskedThrowsModel", "misplaced", "()V"⟩, 69) := ⟨⟨by decide +kernel, by decide +kernel⟩, List.mem_of_getElem? (i := 825) (by decide +kernel), List.mem_of_getElem? (i := 1100) (by decide +kernel), List.mem_of_getElem? (i := 1101) (by decide +kernel)⟩
theorem lw_p42 : lw_okq (⟨"MaskedThrowsModel", "closeBody", "()V"⟩, 69) := ⟨⟨by decide +kernel, by decide +kernel⟩, List.mem_of_getElem? (i := 825) (by decide +kernel), List.mem_of_getElem? (i := 1104) (by decide +kernel), List.mem_of_getElem? (i := 1105) (by decide +kernel)⟩
theorem lw_p43 : lw_okq (⟨"MaskedThrowsModel", "takeWord", "(I)V"⟩, 69) := ⟨⟨by decide +kernel, by decide +kernel⟩, List.mem_of_getElem? (i := 825) (by decide +kernel), List.mem_of_getElem? (i := 1108) (by decide +kernel), List.mem_of_getElem? (i := 1109) (by decide +kernel)⟩
theorem lw_p44 : lw_okq (⟨"MaskedThrowsModel", "openBody", "(II)V"⟩, 69) := ⟨⟨by decide +kernel, by decide +kernel⟩, List.mem_of_getElem? (i := 825) (by decide +kernel), List.mem_of_getElem? (i := 1112) (by decide +kernel), List.mem_of_getElem? (i := 1113) (by decide +kernel)⟩
theorem lw_p45 : lw_okq (⟨"MaskedThrowsModel", "takeLocal", "()V"⟩, 69) := ⟨⟨by decide +kernel, by decide +kernel⟩, List.mem_of_getElem? (i := 825) (by decide +kernel), List.mem_of_getElem? (i := 1116) (by decide +kernel), List.mem_of_getElem? (i := 1117) (by decide +kernel)⟩
theorem lw_p46 : lw_okq (⟨"MaskedThrowsModel", "isLocal", "()Z"⟩, 69) := ⟨⟨by decide +kernel, by decide +kernel⟩, List.mem_of_getElem? (i := 825) (by decide +kernel), List.mem_of_getElem? (i := 1120) (by decide +kernel), List.mem_of_getElem? (i := 1121) (by decide +kernel)⟩
theorem lw_p47 : lw_okq (⟨"MaskedThrowsModel", "readStatement", "()V"⟩, 69) := ⟨⟨by decide +kernel, by decide +kernel⟩, List.mem_of_getElem? (i := 825) (by decide +kernel), List.mem_of_getElem? (i := 1124) (by decide +kernel), List.mem_of_getElem? (i := 1125) (by decide +kernel)⟩
def lw_privs_3 : List (MethodName × Nat) := [(⟨"MaskedThrows$Fiber", "stops", "(LMaskedThrows$Body;)Z"⟩, 15), (⟨"MaskedThrows$Fiber", "perish", "()I"⟩, 15), (⟨"MaskedThrows", "isInRow", "(II)Z"⟩, 7), (⟨"MaskedThrows$World", "wouldStep", "(LMaskedThrows$Fiber;)Z"⟩, 5), (⟨"MaskedThrows", "isNote", "(I)Z"⟩, 7), (⟨"MaskedThrowsModel", "readText", "()V"⟩, 69), (⟨"MaskedThrowsModel", "next", "()V"⟩, 69), (⟨"MaskedThrowsModel", "byteAt", "(I)I"⟩, 69), (⟨"MaskedThrowsModel", "isSign", "(I)Z"⟩, 69), (⟨"MaskedThrowsModel", "misplaced", "()V"⟩, 69), (⟨"MaskedThrowsModel", "closeBody", "()V"⟩, 69), (⟨"MaskedThrowsModel", "takeWord", "(I)V"⟩, 69), (⟨"MaskedThrowsModel", "openBody", "(II)V"⟩, 69), (⟨"MaskedThrowsModel", "takeLocal", "()V"⟩, 69), (⟨"MaskedThrowsModel", "isLocal", "()Z"⟩, 69), (⟨"MaskedThrowsModel", "readStatement", "()V"⟩, 69)]
theorem lw_r3 : ∀ q ∈ lw_privs_3, lw_okq q := List.forall_mem_cons.mpr ⟨lw_p32, List.forall_mem_cons.mpr ⟨lw_p33, List.forall_mem_cons.mpr ⟨lw_p34, List.forall_mem_cons.mpr ⟨lw_p35, List.forall_mem_cons.mpr ⟨lw_p36, List.forall_mem_cons.mpr ⟨lw_p37, List.forall_mem_cons.mpr ⟨lw_p38, List.forall_mem_cons.mpr ⟨lw_p39, List.forall_mem_cons.mpr ⟨lw_p40, List.forall_mem_cons.mpr ⟨lw_p41, List.forall_mem_cons.mpr ⟨lw_p42, List.forall_mem_cons.mpr ⟨lw_p43, List.forall_mem_cons.mpr ⟨lw_p44, List.forall_mem_cons.mpr ⟨lw_p45, List.forall_mem_cons.mpr ⟨lw_p46, List.forall_mem_cons.mpr ⟨lw_p47, fun _ h => absurd h List.not_mem_nil⟩⟩⟩⟩⟩⟩⟩⟩⟩⟩⟩⟩⟩⟩⟩⟩
theorem lw_p48 : lw_okq (⟨"MaskedThrowsModel", "newStatement", "()I"⟩, 69) := ⟨⟨by decide +kernel, by decide +kernel⟩, List.mem_of_getElem? (i := 825) (by decide +kernel), List.mem_of_getElem? (i := 1131) (by decide +kernel), List.mem_of_getElem? (i := 1132) (by decide +kernel)⟩
theorem lw_p49 : lw_okq (⟨"MaskedThrowsModel", "take", "(I)V"⟩, 69) := ⟨⟨by decide +kernel, by decide +kernel⟩, List.mem_of_getElem? (i := 825) (by decide +kernel), List.mem_of_getElem? (i := 1135) (by decide +kernel), List.mem_of_getElem? (i := 1136) (by decide +kernel)⟩
theorem lw_p50 : lw_okq (⟨"MaskedThrowsModel", "readEnd", "(I)V"⟩, 69) := ⟨⟨by decide +kernel, by decide +kernel⟩, List.mem_of_getElem? (i := 825) (by decide +kernel), List.mem_of_getElem? (i := 1139) (by decide +kernel), List.mem_of_getElem? (i := 1140) (by decide +kernel)⟩
theorem lw_p51 : lw_okq (⟨"MaskedThrowsModel", "exp", "()I"⟩, 69) := ⟨⟨by decide +kernel, by decide +kernel⟩, List.mem_of_getElem? (i := 825) (by decide +kernel), List.mem_of_getElem? (i := 1143) (by decide +kernel), List.mem_of_getElem? (i := 1144) (by decide +kernel)⟩
theorem lw_p52 : lw_okq (⟨"MaskedThrowsModel", "readUnary", "()Z"⟩, 69) := ⟨⟨by decide +kernel, by decide +kernel⟩, List.mem_of_getElem? (i := 825) (by decide +kernel), List.mem_of_getElem? (i := 1147) (by decide +kernel), List.mem_of_getElem? (i := 1148) (by decide +kernel)⟩
theorem lw_p53 : lw_okq (⟨"MaskedThrowsModel", "act", "(IIJ)V"⟩, 69) := ⟨⟨by decide +kernel, by decide +kernel⟩, List.mem_of_getElem? (i := 825) (by decide +kernel), List.mem_of_getElem? (i := 1151) (by decide +kernel), List.mem_of_getElem? (i := 1152) (by decide +kernel)⟩
theorem lw_p54 : lw_okq (⟨"MaskedThrowsModel", "operandIsThere", "()V"⟩, 69) := ⟨⟨by decide +kernel, by decide +kernel⟩, List.mem_of_getElem? (i := 825) (by decide +kernel), List.mem_of_getElem? (i := 1155) (by decide +kernel), List.mem_of_getElem? (i := 1156) (by decide +kernel)⟩
theorem lw_p55 : lw_okq (⟨"MaskedThrowsModel", "reduce", "(I)V"⟩, 69) := ⟨⟨by decide +kernel, by decide +kernel⟩, List.mem_of_getElem? (i := 825) (by decide +kernel), List.mem_of_getElem? (i := 1159) (by decide +kernel), List.mem_of_getElem? (i := 1160) (by decide +kernel)⟩
theorem lw_p56 : lw_okq (⟨"MaskedThrowsModel", "takeBox", "(I)V"⟩, 69) := ⟨⟨by decide +kernel, by decide +kernel⟩, List.mem_of_getElem? (i := 825) (by decide +kernel), List.mem_of_getElem? (i := 1166) (by decide +kernel), List.mem_of_getElem? (i := 1167) (by decide +kernel)⟩
theorem lw_p57 : lw_okq (⟨"MaskedThrowsModel", "takeNumber", "(IJ)V"⟩, 69) := ⟨⟨by decide +kernel, by decide +kernel⟩, List.mem_of_getElem? (i := 825) (by decide +kernel), List.mem_of_getElem? (i := 1171) (by decide +kernel), List.mem_of_getElem? (i := 1172) (by decide +kernel)⟩
theorem lw_p58 : lw_okq (⟨"MaskedThrowsModel", "turnOnce", "(I)I"⟩, 69) := ⟨⟨by decide +kernel, by decide +kernel⟩, List.mem_of_getElem? (i := 825) (by decide +kernel), List.mem_of_getElem? (i := 1195) (by decide +kernel), List.mem_of_getElem? (i := 1196) (by decide +kernel)⟩
theorem lw_p59 : lw_okq (⟨"MaskedThrowsModel", "timeouts", "()V"⟩, 69) := ⟨⟨by decide +kernel, by decide +kernel⟩, List.mem_of_getElem? (i := 825) (by decide +kernel), List.mem_of_getElem? (i := 1199) (by decide +kernel), List.mem_of_getElem? (i := 1200) (by decide +kernel)⟩
theorem lw_p60 : lw_okq (⟨"MaskedThrowsModel", "toRow", "(IIJII)V"⟩, 69) := ⟨⟨by decide +kernel, by decide +kernel⟩, List.mem_of_getElem? (i := 825) (by decide +kernel), List.mem_of_getElem? (i := 1203) (by decide +kernel), List.mem_of_getElem? (i := 1204) (by decide +kernel)⟩
theorem lw_p61 : lw_okq (⟨"MaskedThrowsModel", "turnOf", "(I)I"⟩, 69) := ⟨⟨by decide +kernel, by decide +kernel⟩, List.mem_of_getElem? (i := 825) (by decide +kernel), List.mem_of_getElem? (i := 1207) (by decide +kernel), List.mem_of_getElem? (i := 1208) (by decide +kernel)⟩
theorem lw_p62 : lw_okq (⟨"MaskedThrowsModel", "settle", "(I)Z"⟩, 69) := ⟨⟨by decide +kernel, by decide +kernel⟩, List.mem_of_getElem? (i := 825) (by decide +kernel), List.mem_of_getElem? (i := 1211) (by decide +kernel), List.mem_of_getElem? (i := 1212) (by decide +kernel)⟩
theorem lw_p63 : lw_okq (⟨"MaskedThrowsModel", "leave", "(I)V"⟩, 69) := ⟨⟨by decide +kernel, by decide +kernel⟩, List.mem_of_getElem? (i := 825) (by decide +kernel), List.mem_of_getElem? (i := 1215) (by decide +kernel), List.mem_of_getElem? (i := 1216) (by decide +kernel)⟩
def lw_privs_4 : List (MethodName × Nat) := [(⟨"MaskedThrowsModel", "newStatement", "()I"⟩, 69), (⟨"MaskedThrowsModel", "take", "(I)V"⟩, 69), (⟨"MaskedThrowsModel", "readEnd", "(I)V"⟩, 69), (⟨"MaskedThrowsModel", "exp", "()I"⟩, 69), (⟨"MaskedThrowsModel", "readUnary", "()Z"⟩, 69), (⟨"MaskedThrowsModel", "act", "(IIJ)V"⟩, 69), (⟨"MaskedThrowsModel", "operandIsThere", "()V"⟩, 69), (⟨"MaskedThrowsModel", "reduce", "(I)V"⟩, 69), (⟨"MaskedThrowsModel", "takeBox", "(I)V"⟩, 69), (⟨"MaskedThrowsModel", "takeNumber", "(IJ)V"⟩, 69), (⟨"MaskedThrowsModel", "turnOnce", "(I)I"⟩, 69), (⟨"MaskedThrowsModel", "timeouts", "()V"⟩, 69), (⟨"MaskedThrowsModel", "toRow", "(IIJII)V"⟩, 69), (⟨"MaskedThrowsModel", "turnOf", "(I)I"⟩, 69), (⟨"MaskedThrowsModel", "settle", "(I)Z"⟩, 69), (⟨"MaskedThrowsModel", "leave", "(I)V"⟩, 69)]
theorem lw_r4 : ∀ q ∈ lw_privs_4, lw_okq q := List.forall_mem_cons.mpr ⟨lw_p48, List.forall_mem_cons.mpr ⟨lw_p49, List.forall_mem_cons.mpr ⟨lw_p50, List.forall_mem_cons.mpr ⟨lw_p51, List.forall_mem_cons.mpr ⟨lw_p52, List.forall_mem_cons.mpr ⟨lw_p53, List.forall_mem_cons.mpr ⟨lw_p54, List.forall_mem_cons.mpr ⟨lw_p55, List.forall_mem_cons.mpr ⟨lw_p56, List.forall_mem_cons.mpr ⟨lw_p57, List.forall_mem_cons.mpr ⟨lw_p58, List.forall_mem_cons.mpr ⟨lw_p59, List.forall_mem_cons.mpr ⟨lw_p60, List.forall_mem_cons.mpr ⟨lw_p61, List.forall_mem_cons.mpr ⟨lw_p62, List.forall_mem_cons.mpr ⟨lw_p63, fun _ h => absurd h List.not_mem_nil⟩⟩⟩⟩⟩⟩⟩⟩⟩⟩⟩⟩⟩⟩⟩⟩
theorem lw_p64 : lw_okq (⟨"MaskedThrowsModel", "fromRow", "(II)V"⟩, 69) := ⟨⟨by decide +kernel, by decide +kernel⟩, List.mem_of_getElem? (i := 825) (by decide +kernel), List.mem_of_getElem? (i := 1219) (by decide +kernel), List.mem_of_getElem? (i := 1220) (by decide +kernel)⟩
theorem lw_p65 : lw_okq (⟨"MaskedThrowsModel", "note0", "(IIJ)V"⟩, 69) := ⟨⟨by decide +kernel, by decide +kernel⟩, List.mem_of_getElem? (i := 825) (by decide +kernel), List.mem_of_getElem? (i := 1223) (by decide +kernel), List.mem_of_getElem? (i := 1224) (by decide +kernel)⟩
theorem lw_p66 : lw_okq (⟨"MaskedThrowsModel", "goIn", "(IIII)V"⟩, 69) := ⟨⟨by decide +kernel, by decide +kernel⟩, List.mem_of_getElem? (i := 825) (by decide +kernel), List.mem_of_getElem? (i := 1227) (by decide +kernel), List.mem_of_getElem? (i := 1228) (by decide +kernel)⟩
theorem lw_p67 : lw_okq (⟨"MaskedThrowsModel", "throwOut", "(IZJI)Z"⟩, 69) := ⟨⟨by decide +kernel, by decide +kernel⟩, List.mem_of_getElem? (i := 825) (by decide +kernel), List.mem_of_getElem? (i := 1235) (by decide +kernel), List.mem_of_getElem? (i := 1236) (by decide +kernel)⟩
theorem lw_p68 : lw_okq (⟨"MaskedThrowsModel", "dropSerial", "(II)V"⟩, 69) := ⟨⟨by decide +kernel, by decide +kernel⟩, List.mem_of_getElem? (i := 825) (by decide +kernel), List.mem_of_getElem? (i := 1239) (by decide +kernel), List.mem_of_getElem? (i := 1240) (by decide +kernel)⟩
theorem lw_p69 : lw_okq (⟨"MaskedThrowsModel", "thrown", "(Z)I"⟩, 69) := ⟨⟨by decide +kernel, by decide +kernel⟩, List.mem_of_getElem? (i := 825) (by decide +kernel), List.mem_of_getElem? (i := 1243) (by decide +kernel), List.mem_of_getElem? (i := 1244) (by decide +kernel)⟩
theorem lw_p70 : lw_okq (⟨"MaskedThrowsModel", "throwFirst", "(I)I"⟩, 69) := ⟨⟨by decide +kernel, by decide +kernel⟩, List.mem_of_getElem? (i := 825) (by decide +kernel), List.mem_of_getElem? (i := 1247) (by decide +kernel), List.mem_of_getElem? (i := 1248) (by decide +kernel)⟩
theorem lw_p71 : lw_okq (⟨"MaskedThrowsModel", "work", "(II)J"⟩, 69) := ⟨⟨by decide +kernel, by decide +kernel⟩, List.mem_of_getElem? (i := 825) (by decide +kernel), List.mem_of_getElem? (i := 1251) (by decide +kernel), List.mem_of_getElem? (i := 1252) (by decide +kernel)⟩
theorem lw_p72 : lw_okq (⟨"MaskedThrowsModel", "waits", "(I)I"⟩, 69) := ⟨⟨by decide +kernel, by decide +kernel⟩, List.mem_of_getElem? (i := 825) (by decide +kernel), List.mem_of_getElem? (i := 1255) (by decide +kernel), List.mem_of_getElem? (i := 1256) (by decide +kernel)⟩
theorem lw_p73 : lw_okq (⟨"MaskedThrowsModel", "waitsToSend", "(II)Z"⟩, 69) := ⟨⟨by decide +kernel, by decide +kernel⟩, List.mem_of_getElem? (i := 825) (by decide +kernel), List.mem_of_getElem? (i := 1259) (by decide +kernel), List.mem_of_getElem? (i := 1260) (by decide +kernel)⟩
theorem lw_p74 : lw_okq (⟨"MaskedThrowsModel", "stands", "(II)Z"⟩, 69) := ⟨⟨by decide +kernel, by decide +kernel⟩, List.mem_of_getElem? (i := 825) (by decide +kernel), List.mem_of_getElem? (i := 1263) (by decide +kernel), List.mem_of_getElem? (i := 1264) (by decide +kernel)⟩
theorem lw_p75 : lw_okq (⟨"MaskedThrowsModel", "isInRow", "(II)Z"⟩, 69) := ⟨⟨by decide +kernel, by decide +kernel⟩, List.mem_of_getElem? (i := 825) (by decide +kernel), List.mem_of_getElem? (i := 1308) (by decide +kernel), List.mem_of_getElem? (i := 1309) (by decide +kernel)⟩
theorem lw_p76 : lw_okq (⟨"MaskedThrowsModel", "wouldStep", "(I)Z"⟩, 69) := ⟨⟨by decide +kernel, by decide +kernel⟩, List.mem_of_getElem? (i := 825) (by decide +kernel), List.mem_of_getElem? (i := 1320) (by decide +kernel), List.mem_of_getElem? (i := 1321) (by decide +kernel)⟩
theorem lw_p77 : lw_okq (⟨"MaskedThrowsModel", "copyToSpare", "(I)V"⟩, 69) := ⟨⟨by decide +kernel, by decide +kernel⟩, List.mem_of_getElem? (i := 825) (by decide +kernel), List.mem_of_getElem? (i := 1324) (by decide +kernel), List.mem_of_getElem? (i := 1325) (by decide +kernel)⟩
def lw_privs_5 : List (MethodName × Nat) := [(⟨"MaskedThrowsModel", "fromRow", "(II)V"⟩, 69), (⟨"MaskedThrowsModel", "note0", "(IIJ)V"⟩, 69), (⟨"MaskedThrowsModel", "goIn", "(IIII)V"⟩, 69), (⟨"MaskedThrowsModel", "throwOut", "(IZJI)Z"⟩, 69), (⟨"MaskedThrowsModel", "dropSerial", "(II)V"⟩, 69), (⟨"MaskedThrowsModel", "thrown", "(Z)I"⟩, 69), (⟨"MaskedThrowsModel", "throwFirst", "(I)I"⟩, 69), (⟨"MaskedThrowsModel", "work", "(II)J"⟩, 69), (⟨"MaskedThrowsModel", "waits", "(I)I"⟩, 69), (⟨"MaskedThrowsModel", "waitsToSend", "(II)Z"⟩, 69), (⟨"MaskedThrowsModel", "stands", "(II)Z"⟩, 69), (⟨"MaskedThrowsModel", "isInRow", "(II)Z"⟩, 69), (⟨"MaskedThrowsModel", "wouldStep", "(I)Z"⟩, 69), (⟨"MaskedThrowsModel", "copyToSpare", "(I)V"⟩, 69)]
theorem lw_r5 : ∀ q ∈ lw_privs_5, lw_okq q := List.forall_mem_cons.mpr ⟨lw_p64, List.forall_mem_cons.mpr ⟨lw_p65, List.forall_mem_cons.mpr ⟨lw_p66, List.forall_mem_cons.mpr ⟨lw_p67, List.forall_mem_cons.mpr ⟨lw_p68, List.forall_mem_cons.mpr ⟨lw_p69, List.forall_mem_cons.mpr ⟨lw_p70, List.forall_mem_cons.mpr ⟨lw_p71, List.forall_mem_cons.mpr ⟨lw_p72, List.forall_mem_cons.mpr ⟨lw_p73, List.forall_mem_cons.mpr ⟨lw_p74, List.forall_mem_cons.mpr ⟨lw_p75, List.forall_mem_cons.mpr ⟨lw_p76, List.forall_mem_cons.mpr ⟨lw_p77, fun _ h => absurd h List.not_mem_nil⟩⟩⟩⟩⟩⟩⟩⟩⟩⟩⟩⟩⟩⟩
def lw_privs : List (MethodName × Nat) := lw_privs_1 ++ (lw_privs_2 ++ (lw_privs_3 ++ (lw_privs_4 ++ (lw_privs_5))))
def lw_tbl : List Cond := k2_sels lw_privs ++ tables_1
theorem lw_privs_ok : ∀ q ∈ lw_privs, lw_okq q := by
  show ∀ q ∈ lw_privs_1 ++ (lw_privs_2 ++ (lw_privs_3 ++ (lw_privs_4 ++ (lw_privs_5)))), lw_okq q
  exact List.forall_mem_append.mpr ⟨lw_r1, List.forall_mem_append.mpr ⟨lw_r2, List.forall_mem_append.mpr ⟨lw_r3, List.forall_mem_append.mpr ⟨lw_r4, lw_r5⟩⟩⟩⟩
/-! names: words, classes, methods, links (by program out of the tables) -/
def gw : List Cond := lw_tbl.filter goodWord
theorem gw_mem {w : Cond} (h : w ∈ lw_tbl) (g : goodWord w = true) : w ∈ gw := List.mem_filter.mpr ⟨h, g⟩
theorem gw_t {w : Cond} {i : Nat} (h : tables_1[i]? = some w) (g : goodWord w = true) : w ∈ gw := gw_mem (List.mem_append_right _ (List.mem_of_getElem? h)) g
theorem gw_p {w : Cond} {i : Nat} (h : (k2_sels lw_privs)[i]? = some w) (g : goodWord w = true) : w ∈ gw := gw_mem (List.mem_append_left _ (List.mem_of_getElem? h)) g
theorem gw_good {w : Cond} (h : w ∈ gw) : (w.onTables && w.keeps) = true ∨ ∃ ty, w = .arrayClass ty := good_of_word (List.mem_filter.mp h).2
def fT0 : u_T := fun k => match k with
  | 0 => ("MaskedThrows$Body", "owner", "I", false)
  | 1 => ("MaskedThrows$Body", "part", "I", false)
  | 2 => ("MaskedThrows$Body", "strengthBefore", "I", false)
  | 3 => ("MaskedThrows$Body", "at", "I", false)
  | 4 => ("MaskedThrows$Body", "timeout", "I", false)
  | 5 => ("MaskedThrows$Body", "wentIn", "I", false)
  | 6 => ("MaskedThrows$Body", "holds", "Z", false)
  | 7 => ("MaskedThrows$Body", "held", "J", false)
  | _ => ("MaskedThrows$Body", "heldDepth", "I", false)
def fY0 : Nat → FieldType := fun k => match k with
  | 0 => .int
  | 1 => .int
  | 2 => .int
  | 3 => .int
  | 4 => .int
  | 5 => .int
  | 6 => .boolean
  | 7 => .long
  | _ => .int
theorem fN0 : ∀ a, a < 9 → ∀ b, b < 9 → a ≠ b → (fT0 a).2.1 ≠ (fT0 b).2.1 := by decide +kernel
theorem fO0 : ∀ k, k < 9 → parseFieldDescriptor (fT0 k).2.2.1 = some (fY0 k) := by decide +kernel
def fT1 : u_T := fun k => match k with
  | 0 => ("MaskedThrows$Chronicle", "now", "I", false)
  | 1 => ("MaskedThrows$Chronicle", "count", "I", false)
  | 2 => ("MaskedThrows$Chronicle", "kinds", "[I", true)
  | 3 => ("MaskedThrows$Chronicle", "threads", "[I", true)
  | 4 => ("MaskedThrows$Chronicle", "times", "[I", true)
  | _ => ("MaskedThrows$Chronicle", "values", "[J", true)
def fY1 : Nat → FieldType := fun k => match k with
  | 0 => .int
  | 1 => .int
  | 2 => .array .int
  | 3 => .array .int
  | 4 => .array .int
  | _ => .array .long
theorem fN1 : ∀ a, a < 6 → ∀ b, b < 6 → a ≠ b → (fT1 a).2.1 ≠ (fT1 b).2.1 := by decide +kernel
theorem fO1 : ∀ k, k < 6 → parseFieldDescriptor (fT1 k).2.2.1 = some (fY1 k) := by decide +kernel
def fT2 : u_T := fun k => match k with
  | 0 => ("MaskedThrows$Fiber", "number", "I", false)
  | 1 => ("MaskedThrows$Fiber", "row", "LMaskedThrows$Row;", true)
  | 2 => ("MaskedThrows$Fiber", "locals", "[J", true)
  | 3 => ("MaskedThrows$Fiber", "bodies", "[LMaskedThrows$Body;", true)
  | 4 => ("MaskedThrows$Fiber", "chronicle", "LMaskedThrows$Chronicle;", true)
  | 5 => ("MaskedThrows$Fiber", "program", "LMaskedThrows$Program;", false)
  | 6 => ("MaskedThrows$Fiber", "state", "I", false)
  | 7 => ("MaskedThrows$Fiber", "strength", "I", false)
  | 8 => ("MaskedThrows$Fiber", "steps", "I", false)
  | 9 => ("MaskedThrows$Fiber", "depth", "I", false)
  | 10 => ("MaskedThrows$Fiber", "awaited", "I", false)
  | 11 => ("MaskedThrows$Fiber", "diedOf", "J", false)
  | 12 => ("MaskedThrows$Fiber", "sendingTo", "I", false)
  | 13 => ("MaskedThrows$Fiber", "thrown", "J", false)
  | _ => ("MaskedThrows$Fiber", "thrownDepth", "I", false)
def fY2 : Nat → FieldType := fun k => match k with
  | 0 => .int
  | 1 => .object "MaskedThrows$Row"
  | 2 => .array .long
  | 3 => .array (.object "MaskedThrows$Body")
  | 4 => .object "MaskedThrows$Chronicle"
  | 5 => .object "MaskedThrows$Program"
  | 6 => .int
  | 7 => .int
  | 8 => .int
  | 9 => .int
  | 10 => .int
  | 11 => .long
  | 12 => .int
  | 13 => .long
  | _ => .int
theorem fN2 : ∀ a, a < 15 → ∀ b, b < 15 → a ≠ b → (fT2 a).2.1 ≠ (fT2 b).2.1 := by decide +kernel
theorem fO2 : ∀ k, k < 15 → parseFieldDescriptor (fT2 k).2.2.1 = some (fY2 k) := by decide +kernel
def fT3 : u_T := fun k => match k with
  | 0 => ("MaskedThrows$Parser", "tokens", "LMaskedThrows$Tokens;", true)
  | 1 => ("MaskedThrows$Parser", "program", "LMaskedThrows$Program;", false)
  | _ => ("MaskedThrows$Parser", "at", "I", false)
def fY3 : Nat → FieldType := fun k => match k with
  | 0 => .object "MaskedThrows$Tokens"
  | 1 => .object "MaskedThrows$Program"
  | _ => .int
theorem fN3 : ∀ a, a < 3 → ∀ b, b < 3 → a ≠ b → (fT3 a).2.1 ≠ (fT3 b).2.1 := by decide +kernel
theorem fO3 : ∀ k, k < 3 → parseFieldDescriptor (fT3 k).2.2.1 = some (fY3 k) := by decide +kernel
def fT4 : u_T := fun k => match k with
  | 0 => ("MaskedThrows$Program", "statementCount", "I", false)
  | 1 => ("MaskedThrows$Program", "unaryCount", "I", false)
  | 2 => ("MaskedThrows$Program", "deepest", "I", false)
  | 3 => ("MaskedThrows$Program", "codeCount", "I", false)
  | 4 => ("MaskedThrows$Program", "kinds", "[I", true)
  | 5 => ("MaskedThrows$Program", "letters", "[I", true)
  | 6 => ("MaskedThrows$Program", "numbers", "[I", true)
  | 7 => ("MaskedThrows$Program", "expFroms", "[I", true)
  | 8 => ("MaskedThrows$Program", "expTos", "[I", true)
  | 9 => ("MaskedThrows$Program", "nexts", "[I", true)
  | 10 => ("MaskedThrows$Program", "entries", "[I", true)
  | 11 => ("MaskedThrows$Program", "codes", "[I", true)
  | 12 => ("MaskedThrows$Program", "codeNumbers", "[I", true)
  | _ => ("MaskedThrows$Program", "operands", "[J", true)
def fY4 : Nat → FieldType := fun k => match k with
  | 0 => .int
  | 1 => .int
  | 2 => .int
  | 3 => .int
  | 4 => .array .int
  | 5 => .array .int
  | 6 => .array .int
  | 7 => .array .int
  | 8 => .array .int
  | 9 => .array .int
  | 10 => .array .int
  | 11 => .array .int
  | 12 => .array .int
  | _ => .array .long
theorem fN4 : ∀ a, a < 14 → ∀ b, b < 14 → a ≠ b → (fT4 a).2.1 ≠ (fT4 b).2.1 := by decide +kernel
theorem fO4 : ∀ k, k < 14 → parseFieldDescriptor (fT4 k).2.2.1 = some (fY4 k) := by decide +kernel
def fT5 : u_T := fun k => match k with
  | 0 => ("MaskedThrows$Row", "count", "I", false)
  | 1 => ("MaskedThrows$Row", "senders", "[I", true)
  | 2 => ("MaskedThrows$Row", "depths", "[I", true)
  | _ => ("MaskedThrows$Row", "values", "[J", true)
def fY5 : Nat → FieldType := fun k => match k with
  | 0 => .int
  | 1 => .array .int
  | 2 => .array .int
  | _ => .array .long
theorem fN5 : ∀ a, a < 4 → ∀ b, b < 4 → a ≠ b → (fT5 a).2.1 ≠ (fT5 b).2.1 := by decide +kernel
theorem fO5 : ∀ k, k < 4 → parseFieldDescriptor (fT5 k).2.2.1 = some (fY5 k) := by decide +kernel
def fT6 : u_T := fun k => match k with
  | 0 => ("MaskedThrows$Tokens", "kinds", "[I", true)
  | 1 => ("MaskedThrows$Tokens", "values", "[I", true)
  | 2 => ("MaskedThrows$Tokens", "places", "[I", true)
  | _ => ("MaskedThrows$Tokens", "count", "I", false)
def fY6 : Nat → FieldType := fun k => match k with
  | 0 => .array .int
  | 1 => .array .int
  | 2 => .array .int
  | _ => .int
theorem fN6 : ∀ a, a < 4 → ∀ b, b < 4 → a ≠ b → (fT6 a).2.1 ≠ (fT6 b).2.1 := by decide +kernel
theorem fO6 : ∀ k, k < 4 → parseFieldDescriptor (fT6 k).2.2.1 = some (fY6 k) := by decide +kernel
def fT7 : u_T := fun k => match k with
  | 0 => ("MaskedThrows$World", "chronicle", "LMaskedThrows$Chronicle;", true)
  | 1 => ("MaskedThrows$World", "fibers", "[LMaskedThrows$Fiber;", true)
  | 2 => ("MaskedThrows$World", "boxFull", "[Z", true)
  | 3 => ("MaskedThrows$World", "boxNumber", "[J", true)
  | _ => ("MaskedThrows$World", "shadow", "LMaskedThrows$Fiber;", true)
def fY7 : Nat → FieldType := fun k => match k with
  | 0 => .object "MaskedThrows$Chronicle"
  | 1 => .array (.object "MaskedThrows$Fiber")
  | 2 => .array .boolean
  | 3 => .array .long
  | _ => .object "MaskedThrows$Fiber"
theorem fN7 : ∀ a, a < 5 → ∀ b, b < 5 → a ≠ b → (fT7 a).2.1 ≠ (fT7 b).2.1 := by decide +kernel
theorem fO7 : ∀ k, k < 5 → parseFieldDescriptor (fT7 k).2.2.1 = some (fY7 k) := by decide +kernel
def fT8 : u_T := fun k => match k with
  | 0 => ("MaskedThrows", "tape", "[I", true)
  | 1 => ("MaskedThrows", "taped", "I", false)
  | 2 => ("MaskedThrows", "parser", "LMaskedThrows$Parser;", true)
  | 3 => ("MaskedThrows", "programs", "[LMaskedThrows$Program;", true)
  | 4 => ("MaskedThrows", "programCount", "I", false)
  | 5 => ("MaskedThrows", "faultPlace", "I", false)
  | _ => ("MaskedThrows", "world", "LMaskedThrows$World;", true)
def fY8 : Nat → FieldType := fun k => match k with
  | 0 => .array .int
  | 1 => .int
  | 2 => .object "MaskedThrows$Parser"
  | 3 => .array (.object "MaskedThrows$Program")
  | 4 => .int
  | 5 => .int
  | _ => .object "MaskedThrows$World"
theorem fN8 : ∀ a, a < 7 → ∀ b, b < 7 → a ≠ b → (fT8 a).2.1 ≠ (fT8 b).2.1 := by decide +kernel
theorem fO8 : ∀ k, k < 7 → parseFieldDescriptor (fT8 k).2.2.1 = some (fY8 k) := by decide +kernel
def fT9 : u_T := fun k => match k with
  | 0 => ("MaskedThrowsModel", "tape", "[B", true)
  | 1 => ("MaskedThrowsModel", "size", "I", false)
  | 2 => ("MaskedThrowsModel", "at", "I", false)
  | 3 => ("MaskedThrowsModel", "token", "I", false)
  | 4 => ("MaskedThrowsModel", "tokenPlace", "I", false)
  | 5 => ("MaskedThrowsModel", "letter", "I", false)
  | 6 => ("MaskedThrowsModel", "number", "J", false)
  | 7 => ("MaskedThrowsModel", "sign", "I", false)
  | 8 => ("MaskedThrowsModel", "bad", "Z", false)
  | 9 => ("MaskedThrowsModel", "place", "I", false)
  | 10 => ("MaskedThrowsModel", "texts", "I", false)
  | 11 => ("MaskedThrowsModel", "statementCounts", "[I", true)
  | 12 => ("MaskedThrowsModel", "unaryCounts", "[I", true)
  | 13 => ("MaskedThrowsModel", "depths", "[I", true)
  | 14 => ("MaskedThrowsModel", "firstStatements", "[I", true)
  | 15 => ("MaskedThrowsModel", "actCounts", "[I", true)
  | 16 => ("MaskedThrowsModel", "kinds", "[I", true)
  | 17 => ("MaskedThrowsModel", "nexts", "[I", true)
  | 18 => ("MaskedThrowsModel", "exps", "[I", true)
  | 19 => ("MaskedThrowsModel", "bodies", "[I", true)
  | 20 => ("MaskedThrowsModel", "hasBodies", "[Z", true)
  | 21 => ("MaskedThrowsModel", "letters", "[I", true)
  | 22 => ("MaskedThrowsModel", "boxesOf", "[I", true)
  | 23 => ("MaskedThrowsModel", "numbersOf", "[I", true)
  | 24 => ("MaskedThrowsModel", "acts", "[I", true)
  | 25 => ("MaskedThrowsModel", "actLetters", "[I", true)
  | 26 => ("MaskedThrowsModel", "actNumbers", "[J", true)
  | 27 => ("MaskedThrowsModel", "reading", "I", false)
  | 28 => ("MaskedThrowsModel", "pile", "[I", true)
  | 29 => ("MaskedThrowsModel", "piled", "I", false)
  | 30 => ("MaskedThrowsModel", "opens", "I", false)
  | 31 => ("MaskedThrowsModel", "compared", "[Z", true)
  | 32 => ("MaskedThrowsModel", "level", "I", false)
  | 33 => ("MaskedThrowsModel", "openOwners", "[I", true)
  | 34 => ("MaskedThrowsModel", "openWhiches", "[I", true)
  | 35 => ("MaskedThrowsModel", "openLasts", "[I", true)
  | 36 => ("MaskedThrowsModel", "within", "I", false)
  | 37 => ("MaskedThrowsModel", "clock", "I", false)
  | 38 => ("MaskedThrowsModel", "isFull", "[Z", true)
  | 39 => ("MaskedThrowsModel", "boxes", "[J", true)
  | 40 => ("MaskedThrowsModel", "states", "[I", true)
  | 41 => ("MaskedThrowsModel", "positions", "[I", true)
  | 42 => ("MaskedThrowsModel", "strengths", "[I", true)
  | 43 => ("MaskedThrowsModel", "steps", "[I", true)
  | 44 => ("MaskedThrowsModel", "diedOf", "[J", true)
  | 45 => ("MaskedThrowsModel", "locals", "[J", true)
  | 46 => ("MaskedThrowsModel", "levelCounts", "[I", true)
  | 47 => ("MaskedThrowsModel", "levelOf", "[I", true)
  | 48 => ("MaskedThrowsModel", "levelWhich", "[I", true)
  | 49 => ("MaskedThrowsModel", "levelBefore", "[I", true)
  | 50 => ("MaskedThrowsModel", "levelDue", "[J", true)
  | 51 => ("MaskedThrowsModel", "levelCame", "[Z", true)
  | 52 => ("MaskedThrowsModel", "levelOn", "[I", true)
  | 53 => ("MaskedThrowsModel", "levelValue", "[J", true)
  | 54 => ("MaskedThrowsModel", "levelOrigin", "[I", true)
  | 55 => ("MaskedThrowsModel", "rowCounts", "[I", true)
  | 56 => ("MaskedThrowsModel", "rowWho", "[I", true)
  | 57 => ("MaskedThrowsModel", "rowValues", "[J", true)
  | 58 => ("MaskedThrowsModel", "rowLevels", "[I", true)
  | 59 => ("MaskedThrowsModel", "rowSerials", "[I", true)
  | 60 => ("MaskedThrowsModel", "serials", "I", false)
  | 61 => ("MaskedThrowsModel", "sending", "[I", true)
  | 62 => ("MaskedThrowsModel", "sendingTo", "[I", true)
  | 63 => ("MaskedThrowsModel", "notes", "I", false)
  | 64 => ("MaskedThrowsModel", "noteKinds", "[I", true)
  | 65 => ("MaskedThrowsModel", "noteThreads", "[I", true)
  | 66 => ("MaskedThrowsModel", "noteClocks", "[I", true)
  | 67 => ("MaskedThrowsModel", "noteValues", "[J", true)
  | _ => ("MaskedThrowsModel", "stack", "[J", true)
def fY9 : Nat → FieldType := fun k => match k with
  | 0 => .array .byte
  | 1 => .int
  | 2 => .int
  | 3 => .int
  | 4 => .int
  | 5 => .int
  | 6 => .long
  | 7 => .int
  | 8 => .boolean
  | 9 => .int
  | 10 => .int
  | 11 => .array .int
  | 12 => .array .int
  | 13 => .array .int
  | 14 => .array .int
  | 15 => .array .int
  | 16 => .array .int
  | 17 => .array .int
  | 18 => .array .int
  | 19 => .array .int
  | 20 => .array .boolean
  | 21 => .array .int
  | 22 => .array .int
  | 23 => .array .int
  | 24 => .array .int
  | 25 => .array .int
  | 26 => .array .long
  | 27 => .int
  | 28 => .array .int
  | 29 => .int
  | 30 => .int
  | 31 => .array .boolean
  | 32 => .int
  | 33 => .array .int
  | 34 => .array .int
  | 35 => .array .int
  | 36 => .int
  | 37 => .int
  | 38 => .array .boolean
  | 39 => .array .long
  | 40 => .array .int
  | 41 => .array .int
  | 42 => .array .int
  | 43 => .array .int
  | 44 => .array .long
  | 45 => .array .long
  | 46 => .array .int
  | 47 => .array .int
  | 48 => .array .int
  | 49 => .array .int
  | 50 => .array .long
  | 51 => .array .boolean
  | 52 => .array .int
  | 53 => .array .long
  | 54 => .array .int
  | 55 => .array .int
  | 56 => .array .int
  | 57 => .array .long
  | 58 => .array .int
  | 59 => .array .int
  | 60 => .int
  | 61 => .array .int
  | 62 => .array .int
  | 63 => .int
  | 64 => .array .int
  | 65 => .array .int
  | 66 => .array .int
  | 67 => .array .long
  | _ => .array .long
theorem fN9 : ∀ a, a < 69 → ∀ b, b < 69 → a ≠ b → (fT9 a).2.1 ≠ (fT9 b).2.1 := by decide +kernel
theorem fO9 : ∀ k, k < 69 → parseFieldDescriptor (fT9 k).2.2.1 = some (fY9 k) := by decide +kernel
def clS (c : Nat) : String := match c with
  | 0 => "MaskedThrows$Body"
  | 1 => "MaskedThrows$Chronicle"
  | 2 => "MaskedThrows$Fiber"
  | 3 => "MaskedThrows$Parser"
  | 4 => "MaskedThrows$Program"
  | 5 => "MaskedThrows$Row"
  | 6 => "MaskedThrows$Tokens"
  | 7 => "MaskedThrows$World"
  | 8 => "MaskedThrows"
  | _ => "MaskedThrowsModel"
def clT (c : Nat) : u_T := match c with
  | 0 => fT0
  | 1 => fT1
  | 2 => fT2
  | 3 => fT3
  | 4 => fT4
  | 5 => fT5
  | 6 => fT6
  | 7 => fT7
  | 8 => fT8
  | _ => fT9
def clY (c : Nat) : Nat → FieldType := match c with
  | 0 => fY0
  | 1 => fY1
  | 2 => fY2
  | 3 => fY3
  | 4 => fY4
  | 5 => fY5
  | 6 => fY6
  | 7 => fY7
  | 8 => fY8
  | _ => fY9
def clN (c : Nat) : Nat := match c with
  | 0 => 9
  | 1 => 6
  | 2 => 15
  | 3 => 3
  | 4 => 14
  | 5 => 4
  | 6 => 4
  | 7 => 5
  | 8 => 7
  | _ => 69
abbrev classes : List vw_C := [("MaskedThrows$Body", fT0, 9), ("MaskedThrows$Chronicle", fT1, 6), ("MaskedThrows$Fiber", fT2, 15), ("MaskedThrows$Parser", fT3, 3), ("MaskedThrows$Program", fT4, 14), ("MaskedThrows$Row", fT5, 4), ("MaskedThrows$Tokens", fT6, 4), ("MaskedThrows$World", fT7, 5), ("MaskedThrows", fT8, 7), ("MaskedThrowsModel", fT9, 69)]
theorem fW0 : ∀ w ∈ u_ws "MaskedThrows$Body" fT0 9, w ∈ gw := by
  have h : u_ws "MaskedThrows$Body" fT0 9 = [237, 239, 241, 243, 245, 247, 249, 251, 253].filterMap (fun i => tables_1[i]?) := by decide +kernel
  have g : (u_ws "MaskedThrows$Body" fT0 9).all goodWord = true := by decide +kernel
  intro w hw
  have hg := List.all_eq_true.mp g w hw
  rw [h] at hw
  obtain ⟨i, -, hi⟩ := List.mem_filterMap.mp hw
  exact gw_t hi hg
theorem fW1 : ∀ w ∈ u_ws "MaskedThrows$Chronicle" fT1 6, w ∈ gw := by
  have h : u_ws "MaskedThrows$Chronicle" fT1 6 = [162, 164, 166, 168, 170, 172].filterMap (fun i => tables_1[i]?) := by decide +kernel
  have g : (u_ws "MaskedThrows$Chronicle" fT1 6).all goodWord = true := by decide +kernel
  intro w hw
  have hg := List.all_eq_true.mp g w hw
  rw [h] at hw
  obtain ⟨i, -, hi⟩ := List.mem_filterMap.mp hw
  exact gw_t hi hg
theorem fW2 : ∀ w ∈ u_ws "MaskedThrows$Fiber" fT2 15, w ∈ gw := by
  have h : u_ws "MaskedThrows$Fiber" fT2 15 = [289, 291, 293, 295, 297, 299, 301, 303, 305, 307, 309, 311, 313, 315, 317].filterMap (fun i => tables_1[i]?) := by decide +kernel
  have g : (u_ws "MaskedThrows$Fiber" fT2 15).all goodWord = true := by decide +kernel
  intro w hw
  have hg := List.all_eq_true.mp g w hw
  rw [h] at hw
  obtain ⟨i, -, hi⟩ := List.mem_filterMap.mp hw
  exact gw_t hi hg
theorem fW3 : ∀ w ∈ u_ws "MaskedThrows$Parser" fT3 3, w ∈ gw := by
  have h : u_ws "MaskedThrows$Parser" fT3 3 = [56, 58, 60].filterMap (fun i => tables_1[i]?) := by decide +kernel
  have g : (u_ws "MaskedThrows$Parser" fT3 3).all goodWord = true := by decide +kernel
  intro w hw
  have hg := List.all_eq_true.mp g w hw
  rw [h] at hw
  obtain ⟨i, -, hi⟩ := List.mem_filterMap.mp hw
  exact gw_t hi hg
theorem fW4 : ∀ w ∈ u_ws "MaskedThrows$Program" fT4 14, w ∈ gw := by
  have h : u_ws "MaskedThrows$Program" fT4 14 = [105, 107, 109, 111, 113, 115, 117, 119, 121, 123, 125, 127, 129, 131].filterMap (fun i => tables_1[i]?) := by decide +kernel
  have g : (u_ws "MaskedThrows$Program" fT4 14).all goodWord = true := by decide +kernel
  intro w hw
  have hg := List.all_eq_true.mp g w hw
  rw [h] at hw
  obtain ⟨i, -, hi⟩ := List.mem_filterMap.mp hw
  exact gw_t hi hg
theorem fW5 : ∀ w ∈ u_ws "MaskedThrows$Row" fT5 4, w ∈ gw := by
  have h : u_ws "MaskedThrows$Row" fT5 4 = [203, 205, 207, 209].filterMap (fun i => tables_1[i]?) := by decide +kernel
  have g : (u_ws "MaskedThrows$Row" fT5 4).all goodWord = true := by decide +kernel
  intro w hw
  have hg := List.all_eq_true.mp g w hw
  rw [h] at hw
  obtain ⟨i, -, hi⟩ := List.mem_filterMap.mp hw
  exact gw_t hi hg
theorem fW6 : ∀ w ∈ u_ws "MaskedThrows$Tokens" fT6 4, w ∈ gw := by
  have h : u_ws "MaskedThrows$Tokens" fT6 4 = [43, 45, 47, 49].filterMap (fun i => tables_1[i]?) := by decide +kernel
  have g : (u_ws "MaskedThrows$Tokens" fT6 4).all goodWord = true := by decide +kernel
  intro w hw
  have hg := List.all_eq_true.mp g w hw
  rw [h] at hw
  obtain ⟨i, -, hi⟩ := List.mem_filterMap.mp hw
  exact gw_t hi hg
theorem fW7 : ∀ w ∈ u_ws "MaskedThrows$World" fT7 5, w ∈ gw := by
  have h : u_ws "MaskedThrows$World" fT7 5 = [329, 331, 333, 335, 337].filterMap (fun i => tables_1[i]?) := by decide +kernel
  have g : (u_ws "MaskedThrows$World" fT7 5).all goodWord = true := by decide +kernel
  intro w hw
  have hg := List.all_eq_true.mp g w hw
  rw [h] at hw
  obtain ⟨i, -, hi⟩ := List.mem_filterMap.mp hw
  exact gw_t hi hg
theorem fW8 : ∀ w ∈ u_ws "MaskedThrows" fT8 7, w ∈ gw := by
  have h : u_ws "MaskedThrows" fT8 7 = [347, 349, 351, 353, 355, 357, 359].filterMap (fun i => tables_1[i]?) := by decide +kernel
  have g : (u_ws "MaskedThrows" fT8 7).all goodWord = true := by decide +kernel
  intro w hw
  have hg := List.all_eq_true.mp g w hw
  rw [h] at hw
  obtain ⟨i, -, hi⟩ := List.mem_filterMap.mp hw
  exact gw_t hi hg
theorem fW9 : ∀ w ∈ u_ws "MaskedThrowsModel" fT9 69, w ∈ gw := by
  have h : u_ws "MaskedThrowsModel" fT9 69 = [899, 901, 903, 905, 907, 909, 911, 913, 915, 917, 919, 921, 923, 925, 927, 929, 931, 933, 935, 937, 939, 941, 943, 945, 947, 949, 951, 953, 955, 957, 959, 961, 963, 965, 967, 969, 971, 973, 975, 977, 979, 981, 983, 985, 987, 989, 991, 993, 995, 997, 999, 1001, 1003, 1005, 1007, 1009, 1011, 1013, 1015, 1017, 1019, 1021, 1023, 1025, 1027, 1029, 1031, 1033, 1035].filterMap (fun i => tables_1[i]?) := by decide +kernel
  have g : (u_ws "MaskedThrowsModel" fT9 69).all goodWord = true := by decide +kernel
  intro w hw
  have hg := List.all_eq_true.mp g w hw
  rw [h] at hw
  obtain ⟨i, -, hi⟩ := List.mem_filterMap.mp hw
  exact gw_t hi hg
def mtl : List (MethodName × ByteArray × Nat × Option FieldType) := [
  (⟨"MaskedThrows", "<init>", "()V"⟩, prog_1_method_1_code, 2, none),
  (⟨"java/lang/Object", "<init>", "()V"⟩, object_method_1_code, 1, none),
  (⟨"MaskedThrows$Parser", "<init>", "()V"⟩, prog_5_method_1_code, 1, none),
  (⟨"MaskedThrows$Tokens", "<init>", "()V"⟩, prog_8_method_1_code, 1, none),
  (⟨"MaskedThrows$Program", "<init>", "()V"⟩, prog_6_method_1_code, 1, none),
  (⟨"MaskedThrows$World", "<init>", "()V"⟩, prog_9_method_1_code, 5, none),
  (⟨"MaskedThrows$Chronicle", "<init>", "(I)V"⟩, prog_3_method_1_code, 2, none),
  (⟨"MaskedThrows$Fiber", "<init>", "(ILMaskedThrows$Chronicle;LMaskedThrows$Program;)V"⟩, prog_4_method_1_code, 5, none),
  (⟨"MaskedThrows$Row", "<init>", "()V"⟩, prog_7_method_1_code, 1, none),
  (⟨"MaskedThrows$Body", "<init>", "()V"⟩, prog_2_method_1_code, 1, none),
  (⟨"MaskedThrows", "feed", "(IIIII)I"⟩, prog_1_method_2_code, 6, some .int),
  (⟨"MaskedThrows", "putOnTape", "(I)V"⟩, prog_1_method_3_code, 3, none),
  (⟨"MaskedThrows", "end", "(I)I"⟩, prog_1_method_4_code, 2, some .int),
  (⟨"MaskedThrows", "text", "()I"⟩, prog_1_method_5_code, 1, some .int),
  (⟨"MaskedThrows$Parser", "parse", "([IILMaskedThrows$Program;)I"⟩, prog_5_method_2_code, 5, some .int),
  (⟨"MaskedThrows$Tokens", "scan", "([II)V"⟩, prog_8_method_2_code, 6, none),
  (⟨"MaskedThrows$Tokens", "isLetter", "(I)Z"⟩, prog_8_method_8_code, 1, some .boolean),
  (⟨"MaskedThrows$Tokens", "addLetters", "([III)V"⟩, prog_8_method_4_code, 5, none),
  (⟨"MaskedThrows$Tokens", "wordKind", "([III)I"⟩, prog_8_method_6_code, 4, some .int),
  (⟨"MaskedThrows$Tokens", "isSpelled", "(I[III)Z"⟩, prog_8_method_7_code, 6, some .boolean),
  (⟨"java/lang/String", "charAt", "(I)C"⟩, prog_13_method_56_code, 2, some .char),
  (⟨"java/lang/String", "isLatin1", "()Z"⟩, prog_13_method_154_code, 1, some .boolean),
  (⟨"java/lang/StringLatin1", "charAt", "([BI)C"⟩, prog_14_method_2_code, 2, some .char),
  (⟨"java/lang/String", "checkIndex", "(II)V"⟩, prog_13_method_155_code, 2, none),
  (⟨"jdk/internal/util/Preconditions", "checkIndex", "(IILjava/util/function/BiFunction;)I"⟩, prog_16_method_11_code, 3, some .int),
  (⟨"java/lang/StringUTF16", "charAt", "([BI)C"⟩, prog_15_method_83_code, 2, some .char),
  (⟨"java/lang/StringUTF16", "checkIndex", "(I[B)V"⟩, prog_15_method_91_code, 2, none),
  (⟨"java/lang/StringUTF16", "length", "([B)I"⟩, prog_15_method_6_code, 1, some .int),
  (⟨"java/lang/StringUTF16", "getChar", "([BI)C"⟩, prog_15_method_5_code, 2, some .char),
  (⟨"MaskedThrows$Tokens", "addToken", "(III)V"⟩, prog_8_method_3_code, 4, none),
  (⟨"MaskedThrows$Tokens", "isDigit", "(I)Z"⟩, prog_8_method_9_code, 1, some .boolean),
  (⟨"MaskedThrows$Tokens", "addDigits", "([III)V"⟩, prog_8_method_5_code, 6, none),
  (⟨"MaskedThrows$Tokens", "isSign", "(I)Z"⟩, prog_8_method_10_code, 2, some .boolean),
  (⟨"java/lang/String", "length", "()I"⟩, prog_13_method_54_code, 1, some .int),
  (⟨"java/lang/String", "coder", "()B"⟩, prog_13_method_152_code, 1, some .byte),
  (⟨"MaskedThrows$Program", "reset", "()V"⟩, prog_6_method_2_code, 1, none),
  (⟨"MaskedThrows$Parser", "statements", "(III)Z"⟩, prog_5_method_3_code, 7, some .boolean),
  (⟨"MaskedThrows$Parser", "statement", "(I)Z"⟩, prog_5_method_4_code, 4, some .boolean),
  (⟨"MaskedThrows$Parser", "beginsStatement", "(I)Z"⟩, prog_5_method_5_code, 1, some .boolean),
  (⟨"MaskedThrows$Program", "addStatement", "(I)I"⟩, prog_6_method_3_code, 4, some .int),
  (⟨"MaskedThrows$Parser", "isLocal", "(I)Z"⟩, prog_5_method_7_code, 2, some .boolean),
  (⟨"MaskedThrows$Parser", "is", "(I)Z"⟩, prog_5_method_6_code, 2, some .boolean),
  (⟨"MaskedThrows$Parser", "isExpOf", "(I)Z"⟩, prog_5_method_12_code, 3, some .boolean),
  (⟨"MaskedThrows$Parser", "isExp", "(I)Z"⟩, prog_5_method_13_code, 3, some .boolean),
  (⟨"MaskedThrows$Parser", "isSum", "(I)Z"⟩, prog_5_method_14_code, 5, some .boolean),
  (⟨"MaskedThrows$Parser", "isProduct", "(I)Z"⟩, prog_5_method_15_code, 4, some .boolean),
  (⟨"MaskedThrows$Parser", "isUnary", "(I)Z"⟩, prog_5_method_16_code, 3, some .boolean),
  (⟨"MaskedThrows$Program", "addCode", "(II)Z"⟩, prog_6_method_4_code, 3, some .boolean),
  (⟨"MaskedThrows$Parser", "isCondition", "(I)Z"⟩, prog_5_method_11_code, 2, some .boolean),
  (⟨"MaskedThrows$Parser", "isBody", "(III)Z"⟩, prog_5_method_9_code, 4, some .boolean),
  (⟨"java/lang/Math", "max", "(II)I"⟩, prog_12_method_65_code, 2, some .int),
  (⟨"MaskedThrows$Parser", "mayHaveElse", "(II)Z"⟩, prog_5_method_10_code, 3, some .boolean),
  (⟨"MaskedThrows$Parser", "isNumberOf", "(III)Z"⟩, prog_5_method_8_code, 4, some .boolean),
  (⟨"MaskedThrows", "place", "()I"⟩, prog_1_method_6_code, 1, some .int),
  (⟨"MaskedThrows", "told", "(II)I"⟩, prog_1_method_7_code, 3, some .int),
  (⟨"MaskedThrows", "isProgram", "(I)Z"⟩, prog_1_method_26_code, 2, some .boolean),
  (⟨"MaskedThrows", "start", "(II)I"⟩, prog_1_method_8_code, 3, some .int),
  (⟨"MaskedThrows", "isThread", "(I)Z"⟩, prog_1_method_27_code, 1, some .boolean),
  (⟨"MaskedThrows", "runs", "(I)Z"⟩, prog_1_method_28_code, 2, some .boolean),
  (⟨"MaskedThrows$Fiber", "begin", "(LMaskedThrows$Program;)V"⟩, prog_4_method_4_code, 2, none),
  (⟨"MaskedThrows$Fiber", "reset", "()V"⟩, prog_4_method_2_code, 2, none),
  (⟨"MaskedThrows$Fiber", "leaveAll", "()V"⟩, prog_4_method_3_code, 1, none),
  (⟨"MaskedThrows$Body", "enter", "(IIII)V"⟩, prog_2_method_2_code, 5, none),
  (⟨"MaskedThrows$Body", "enterPart", "(II)V"⟩, prog_2_method_3_code, 3, none),
  (⟨"MaskedThrows", "turn", "(I)I"⟩, prog_1_method_9_code, 2, some .int),
  (⟨"MaskedThrows$World", "takeTurn", "(LMaskedThrows$Fiber;)I"⟩, prog_9_method_3_code, 3, some .int),
  (⟨"MaskedThrows$Fiber", "bringTimeouts", "()V"⟩, prog_4_method_14_code, 3, none),
  (⟨"MaskedThrows$Row", "append", "(IIJ)V"⟩, prog_7_method_2_code, 5, none),
  (⟨"MaskedThrows$World", "step", "(LMaskedThrows$Fiber;)I"⟩, prog_9_method_4_code, 3, some .int),
  (⟨"MaskedThrows$Fiber", "settle", "()Z"⟩, prog_4_method_15_code, 4, some .boolean),
  (⟨"MaskedThrows$Fiber", "nextStatement", "()I"⟩, prog_4_method_7_code, 1, some .int),
  (⟨"MaskedThrows$Fiber", "goOver", "(LMaskedThrows$Body;II)V"⟩, prog_4_method_11_code, 4, none),
  (⟨"MaskedThrows$Program", "entryOf", "(II)I"⟩, prog_6_method_5_code, 3, some .int),
  (⟨"MaskedThrows$Chronicle", "tell", "(IIJ)V"⟩, prog_3_method_2_code, 5, none),
  (⟨"MaskedThrows$Fiber", "goToLast", "(LMaskedThrows$Body;)V"⟩, prog_4_method_16_code, 2, none),
  (⟨"MaskedThrows$Fiber", "leave", "()V"⟩, prog_4_method_12_code, 2, none),
  (⟨"MaskedThrows$Fiber", "forgetTimeout", "(LMaskedThrows$Body;)V"⟩, prog_4_method_13_code, 2, none),
  (⟨"MaskedThrows$Row", "placeOfTimeout", "(I)I"⟩, prog_7_method_6_code, 3, some .int),
  (⟨"MaskedThrows$Row", "removeAt", "(I)V"⟩, prog_7_method_3_code, 3, none),
  (⟨"MaskedThrows$Fiber", "goBehind", "()I"⟩, prog_4_method_9_code, 2, some .int),
  (⟨"MaskedThrows$World", "takeFromRow", "(LMaskedThrows$Fiber;)I"⟩, prog_9_method_5_code, 3, some .int),
  (⟨"MaskedThrows$World", "breakSend", "(LMaskedThrows$Fiber;)V"⟩, prog_9_method_6_code, 3, none),
  (⟨"MaskedThrows$Row", "placeFrom", "(I)I"⟩, prog_7_method_5_code, 3, some .int),
  (⟨"MaskedThrows$Fiber", "finish", "()I"⟩, prog_4_method_5_code, 1, some .int),
  (⟨"MaskedThrows$World", "perform", "(LMaskedThrows$Fiber;I)I"⟩, prog_9_method_7_code, 4, some .int),
  (⟨"MaskedThrows$Program", "work", "(I[J)J"⟩, prog_6_method_6_code, 6, some .long),
  (⟨"MaskedThrows$Program", "joined", "(IJJ)J"⟩, prog_6_method_7_code, 5, some .long),
  (⟨"MaskedThrows$Fiber", "goIn", "(II)I"⟩, prog_4_method_10_code, 5, some .int),
  (⟨"MaskedThrows$World", "takeFromBox", "(LMaskedThrows$Fiber;I)I"⟩, prog_9_method_8_code, 4, some .int),
  (⟨"MaskedThrows$World", "waits", "(LMaskedThrows$Fiber;I)Z"⟩, prog_9_method_12_code, 4, some .boolean),
  (⟨"MaskedThrows$World", "putInBox", "(LMaskedThrows$Fiber;I)I"⟩, prog_9_method_9_code, 4, some .int),
  (⟨"MaskedThrows$World", "throwValue", "(LMaskedThrows$Fiber;I)I"⟩, prog_9_method_10_code, 2, some .int),
  (⟨"MaskedThrows$World", "sendValue", "(LMaskedThrows$Fiber;I)I"⟩, prog_9_method_11_code, 4, some .int),
  (⟨"MaskedThrows$Fiber", "unwind", "()I"⟩, prog_4_method_17_code, 2, some .int),
  (⟨"MaskedThrows$Fiber", "stops", "(LMaskedThrows$Body;)Z"⟩, prog_4_method_18_code, 3, some .boolean),
  (⟨"MaskedThrows$Fiber", "perish", "()I"⟩, prog_4_method_6_code, 1, some .int),
  (⟨"MaskedThrows", "play", "(JI)I"⟩, prog_1_method_10_code, 9, some .int),
  (⟨"MaskedThrows", "hurl", "(IJ)I"⟩, prog_1_method_11_code, 5, some .int),
  (⟨"MaskedThrows$Row", "countFrom", "(I)I"⟩, prog_7_method_4_code, 4, some .int),
  (⟨"MaskedThrows", "fill", "(IJ)I"⟩, prog_1_method_12_code, 4, some .int),
  (⟨"MaskedThrows", "isBox", "(I)Z"⟩, prog_1_method_29_code, 1, some .boolean),
  (⟨"MaskedThrows", "full", "(I)I"⟩, prog_1_method_13_code, 2, some .int),
  (⟨"MaskedThrows", "box", "(I)J"⟩, prog_1_method_14_code, 2, some .long),
  (⟨"MaskedThrows", "thread", "(II)I"⟩, prog_1_method_15_code, 4, some .int),
  (⟨"MaskedThrows$Fiber", "holdsValue", "()Z"⟩, prog_4_method_8_code, 2, some .boolean),
  (⟨"MaskedThrows", "died", "(I)J"⟩, prog_1_method_16_code, 2, some .long),
  (⟨"MaskedThrows", "local", "(II)J"⟩, prog_1_method_17_code, 3, some .long),
  (⟨"MaskedThrows", "row", "(III)I"⟩, prog_1_method_18_code, 5, some .int),
  (⟨"MaskedThrows", "isInRow", "(II)Z"⟩, prog_1_method_30_code, 3, some .boolean),
  (⟨"MaskedThrows", "value", "(II)J"⟩, prog_1_method_19_code, 3, some .long),
  (⟨"MaskedThrows", "stuck", "()I"⟩, prog_1_method_20_code, 1, some .int),
  (⟨"MaskedThrows$World", "anyWouldStep", "()Z"⟩, prog_9_method_13_code, 2, some .boolean),
  (⟨"MaskedThrows$World", "wouldStep", "(LMaskedThrows$Fiber;)Z"⟩, prog_9_method_14_code, 4, some .boolean),
  (⟨"MaskedThrows$Fiber", "mirror", "(LMaskedThrows$Fiber;)V"⟩, prog_4_method_19_code, 3, none),
  (⟨"MaskedThrows$Row", "mirror", "(LMaskedThrows$Row;)V"⟩, prog_7_method_7_code, 3, none),
  (⟨"MaskedThrows$Body", "mirror", "(LMaskedThrows$Body;)V"⟩, prog_2_method_4_code, 2, none),
  (⟨"MaskedThrows", "clock", "()I"⟩, prog_1_method_21_code, 1, some .int),
  (⟨"MaskedThrows", "notes", "()I"⟩, prog_1_method_22_code, 1, some .int),
  (⟨"MaskedThrows", "note", "(II)I"⟩, prog_1_method_23_code, 3, some .int),
  (⟨"MaskedThrows", "isNote", "(I)Z"⟩, prog_1_method_31_code, 2, some .boolean),
  (⟨"MaskedThrows", "noted", "(I)J"⟩, prog_1_method_24_code, 2, some .long),
  (⟨"MaskedThrows", "clear", "()I"⟩, prog_1_method_25_code, 2, some .int),
  (⟨"MaskedThrows$World", "reset", "()V"⟩, prog_9_method_2_code, 2, none),
  (⟨"MaskedThrowsModel", "<init>", "()V"⟩, prog_11_method_1_code, 1, none),
  (⟨"MaskedThrowsModel", "feed", "(IIIII)I"⟩, prog_11_method_29_code, 9, some .int),
  (⟨"MaskedThrowsModel", "end", "(I)I"⟩, prog_11_method_30_code, 2, some .int),
  (⟨"MaskedThrowsModel", "text", "()I"⟩, prog_11_method_31_code, 1, some .int),
  (⟨"MaskedThrowsModel", "readText", "()V"⟩, prog_11_method_20_code, 1, none),
  (⟨"MaskedThrowsModel", "next", "()V"⟩, prog_11_method_7_code, 6, none),
  (⟨"MaskedThrowsModel", "byteAt", "(I)I"⟩, prog_11_method_2_code, 2, some .int),
  (⟨"MaskedThrowsModel", "isSmall", "(I)Z"⟩, prog_11_method_3_code, 1, some .boolean),
  (⟨"MaskedThrowsModel", "wordOf", "(J)I"⟩, prog_11_method_6_code, 2, some .int),
  (⟨"MaskedThrowsModel", "isFigure", "(I)Z"⟩, prog_11_method_4_code, 1, some .boolean),
  (⟨"MaskedThrowsModel", "isSignByte", "(I)Z"⟩, prog_11_method_5_code, 1, some .boolean),
  (⟨"MaskedThrowsModel", "isSign", "(I)Z"⟩, prog_11_method_9_code, 2, some .boolean),
  (⟨"MaskedThrowsModel", "misplaced", "()V"⟩, prog_11_method_8_code, 1, none),
  (⟨"MaskedThrowsModel", "closeBody", "()V"⟩, prog_11_method_21_code, 4, none),
  (⟨"MaskedThrowsModel", "takeWord", "(I)V"⟩, prog_11_method_11_code, 2, none),
  (⟨"MaskedThrowsModel", "openBody", "(II)V"⟩, prog_11_method_19_code, 3, none),
  (⟨"MaskedThrowsModel", "takeLocal", "()V"⟩, prog_11_method_22_code, 1, none),
  (⟨"MaskedThrowsModel", "isLocal", "()Z"⟩, prog_11_method_12_code, 1, some .boolean),
  (⟨"MaskedThrowsModel", "readStatement", "()V"⟩, prog_11_method_27_code, 4, none),
  (⟨"MaskedThrowsModel", "begins", "(I)Z"⟩, prog_11_method_26_code, 1, some .boolean),
  (⟨"MaskedThrowsModel", "newStatement", "()I"⟩, prog_11_method_25_code, 4, some .int),
  (⟨"MaskedThrowsModel", "take", "(I)V"⟩, prog_11_method_10_code, 2, none),
  (⟨"MaskedThrowsModel", "readEnd", "(I)V"⟩, prog_11_method_28_code, 2, none),
  (⟨"MaskedThrowsModel", "exp", "()I"⟩, prog_11_method_17_code, 5, some .int),
  (⟨"MaskedThrowsModel", "readUnary", "()Z"⟩, prog_11_method_18_code, 3, some .boolean),
  (⟨"MaskedThrowsModel", "act", "(IIJ)V"⟩, prog_11_method_13_code, 6, none),
  (⟨"MaskedThrowsModel", "operandIsThere", "()V"⟩, prog_11_method_16_code, 1, none),
  (⟨"MaskedThrowsModel", "reduce", "(I)V"⟩, prog_11_method_15_code, 2, none),
  (⟨"MaskedThrowsModel", "strengthOf", "(I)I"⟩, prog_11_method_14_code, 1, some .int),
  (⟨"MaskedThrowsModel", "takeBox", "(I)V"⟩, prog_11_method_23_code, 2, none),
  (⟨"MaskedThrowsModel", "takeNumber", "(IJ)V"⟩, prog_11_method_24_code, 4, none),
  (⟨"MaskedThrowsModel", "place", "()I"⟩, prog_11_method_32_code, 1, some .int),
  (⟨"MaskedThrowsModel", "told", "(II)I"⟩, prog_11_method_33_code, 3, some .int),
  (⟨"MaskedThrowsModel", "start", "(II)I"⟩, prog_11_method_53_code, 4, some .int),
  (⟨"MaskedThrowsModel", "isThread", "(I)Z"⟩, prog_11_method_52_code, 1, some .boolean),
  (⟨"MaskedThrowsModel", "turn", "(I)I"⟩, prog_11_method_54_code, 2, some .int),
  (⟨"MaskedThrowsModel", "turnOnce", "(I)I"⟩, prog_11_method_51_code, 3, some .int),
  (⟨"MaskedThrowsModel", "timeouts", "()V"⟩, prog_11_method_47_code, 4, none),
  (⟨"MaskedThrowsModel", "toRow", "(IIJII)V"⟩, prog_11_method_36_code, 8, none),
  (⟨"MaskedThrowsModel", "turnOf", "(I)I"⟩, prog_11_method_49_code, 5, some .int),
  (⟨"MaskedThrowsModel", "settle", "(I)Z"⟩, prog_11_method_43_code, 5, some .boolean),
  (⟨"MaskedThrowsModel", "leave", "(I)V"⟩, prog_11_method_41_code, 4, none),
  (⟨"MaskedThrowsModel", "fromRow", "(II)V"⟩, prog_11_method_37_code, 5, none),
  (⟨"MaskedThrowsModel", "note0", "(IIJ)V"⟩, prog_11_method_34_code, 5, none),
  (⟨"MaskedThrowsModel", "goIn", "(IIII)V"⟩, prog_11_method_40_code, 6, none),
  (⟨"MaskedThrowsModel", "atLeast", "(II)I"⟩, prog_11_method_42_code, 2, some .int),
  (⟨"MaskedThrowsModel", "throwOut", "(IZJI)Z"⟩, prog_11_method_44_code, 10, some .boolean),
  (⟨"MaskedThrowsModel", "dropSerial", "(II)V"⟩, prog_11_method_39_code, 4, none),
  (⟨"MaskedThrowsModel", "thrown", "(Z)I"⟩, prog_11_method_45_code, 2, some .int),
  (⟨"MaskedThrowsModel", "throwFirst", "(I)I"⟩, prog_11_method_46_code, 7, some .int),
  (⟨"MaskedThrowsModel", "work", "(II)J"⟩, prog_11_method_35_code, 10, some .long),
  (⟨"MaskedThrowsModel", "waits", "(I)I"⟩, prog_11_method_48_code, 2, some .int),
  (⟨"MaskedThrowsModel", "waitsToSend", "(II)Z"⟩, prog_11_method_50_code, 4, some .boolean),
  (⟨"MaskedThrowsModel", "stands", "(II)Z"⟩, prog_11_method_38_code, 5, some .boolean),
  (⟨"MaskedThrowsModel", "play", "(JI)I"⟩, prog_11_method_55_code, 9, some .int),
  (⟨"MaskedThrowsModel", "hurl", "(IJ)I"⟩, prog_11_method_56_code, 6, some .int),
  (⟨"MaskedThrowsModel", "fill", "(IJ)I"⟩, prog_11_method_58_code, 4, some .int),
  (⟨"MaskedThrowsModel", "isBox", "(I)Z"⟩, prog_11_method_57_code, 1, some .boolean),
  (⟨"MaskedThrowsModel", "full", "(I)I"⟩, prog_11_method_59_code, 2, some .int),
  (⟨"MaskedThrowsModel", "box", "(I)J"⟩, prog_11_method_60_code, 2, some .long),
  (⟨"MaskedThrowsModel", "thread", "(II)I"⟩, prog_11_method_61_code, 7, some .int),
  (⟨"MaskedThrowsModel", "died", "(I)J"⟩, prog_11_method_62_code, 2, some .long),
  (⟨"MaskedThrowsModel", "local", "(II)J"⟩, prog_11_method_63_code, 3, some .long),
  (⟨"MaskedThrowsModel", "row", "(III)I"⟩, prog_11_method_65_code, 5, some .int),
  (⟨"MaskedThrowsModel", "isInRow", "(II)Z"⟩, prog_11_method_64_code, 3, some .boolean),
  (⟨"MaskedThrowsModel", "value", "(II)J"⟩, prog_11_method_66_code, 3, some .long),
  (⟨"MaskedThrowsModel", "stuck", "()I"⟩, prog_11_method_69_code, 2, some .int),
  (⟨"MaskedThrowsModel", "wouldStep", "(I)Z"⟩, prog_11_method_68_code, 4, some .boolean),
  (⟨"MaskedThrowsModel", "copyToSpare", "(I)V"⟩, prog_11_method_67_code, 5, none),
  (⟨"MaskedThrowsModel", "clock", "()I"⟩, prog_11_method_70_code, 1, some .int),
  (⟨"MaskedThrowsModel", "notes", "()I"⟩, prog_11_method_71_code, 1, some .int),
  (⟨"MaskedThrowsModel", "note", "(II)I"⟩, prog_11_method_72_code, 3, some .int),
  (⟨"MaskedThrowsModel", "noted", "(I)J"⟩, prog_11_method_73_code, 2, some .long),
  (⟨"MaskedThrowsModel", "clear", "()I"⟩, prog_11_method_74_code, 4, some .int),
  (x, code, maxLocals, ret)]
def mtd (j : Nat) : MethodName × ByteArray × Nat × Option FieldType := mtl.getD j (x, code, maxLocals, ret)
def mY (j : Nat) : MethodName := (mtd j).1
def mB (j : Nat) : ByteArray := (mtd j).2.1
def mL (j : Nat) : Nat := (mtd j).2.2.1
def mR (j : Nat) : Option FieldType := (mtd j).2.2.2
def mW (j : Nat) : List Cond := .code (mY j) (mB j) (mL j) (mR j) :: gw
set_option maxRecDepth 100000 in
theorem mtl_codes : tables_1.filter k2_isCode = (mtl.take 197).map (fun q => Cond.code q.1 q.2.1 q.2.2.1 q.2.2.2) := by rfl
theorem m_code {j : Nat} (h : j < 197) : Cond.code (mY j) (mB j) (mL j) (mR j) ∈ gw := by
  have h1 : mtl[j]? = some (mtd j) := by
    have hl : j < mtl.length := Nat.lt_of_lt_of_le h (by decide +kernel)
    rw [mtd, List.getD_eq_getElem?_getD, List.getElem?_eq_getElem hl]; rfl
  have h2 : mtd j ∈ mtl.take 197 := by
    refine List.mem_of_getElem? (i := j) ?_
    rw [List.getElem?_take_of_lt h]; exact h1
  have h3 : Cond.code (mY j) (mB j) (mL j) (mR j) ∈ tables_1.filter k2_isCode := by
    rw [mtl_codes]; exact List.mem_map.mpr ⟨_, h2, rfl⟩
  exact gw_mem (List.mem_append_right _ (List.mem_filter.mp h3).1) rfl
/-- what a call of an instance method needs, beside its link: (method, parameters) -/
theorem mI0 : Cond.instanceMethod (mY 0) ∈ gw := gw_t (i := 19) (by decide +kernel) (by decide +kernel)
theorem mG0 : Cond.initialized (mY 0).cls ∈ gw := gw_t (i := 1) (by decide +kernel) (by decide +kernel)
theorem mI1 : Cond.instanceMethod (mY 1) ∈ gw := gw_t (i := 22) (by decide +kernel) (by decide +kernel)
theorem mI2 : Cond.instanceMethod (mY 2) ∈ gw := gw_t (i := 27) (by decide +kernel) (by decide +kernel)
theorem mG2 : Cond.initialized (mY 2).cls ∈ gw := gw_t (i := 2) (by decide +kernel) (by decide +kernel)
theorem mI3 : Cond.instanceMethod (mY 3) ∈ gw := gw_t (i := 33) (by decide +kernel) (by decide +kernel)
theorem mG3 : Cond.initialized (mY 3).cls ∈ gw := gw_t (i := 3) (by decide +kernel) (by decide +kernel)
theorem mI4 : Cond.instanceMethod (mY 4) ∈ gw := gw_t (i := 67) (by decide +kernel) (by decide +kernel)
theorem mG4 : Cond.initialized (mY 4).cls ∈ gw := gw_t (i := 4) (by decide +kernel) (by decide +kernel)
theorem mI5 : Cond.instanceMethod (mY 5) ∈ gw := gw_t (i := 138) (by decide +kernel) (by decide +kernel)
theorem mG5 : Cond.initialized (mY 5).cls ∈ gw := gw_t (i := 5) (by decide +kernel) (by decide +kernel)
theorem mI6 : Cond.instanceMethod (mY 6) ∈ gw := gw_t (i := 144) (by decide +kernel) (by decide +kernel)
theorem mG6 : Cond.initialized (mY 6).cls ∈ gw := gw_t (i := 6) (by decide +kernel) (by decide +kernel)
theorem mI7 : Cond.instanceMethod (mY 7) ∈ gw := gw_t (i := 182) (by decide +kernel) (by decide +kernel)
theorem mG7 : Cond.initialized (mY 7).cls ∈ gw := gw_t (i := 7) (by decide +kernel) (by decide +kernel)
theorem mI8 : Cond.instanceMethod (mY 8) ∈ gw := gw_t (i := 188) (by decide +kernel) (by decide +kernel)
theorem mG8 : Cond.initialized (mY 8).cls ∈ gw := gw_t (i := 8) (by decide +kernel) (by decide +kernel)
theorem mI9 : Cond.instanceMethod (mY 9) ∈ gw := gw_t (i := 216) (by decide +kernel) (by decide +kernel)
theorem mG9 : Cond.initialized (mY 9).cls ∈ gw := gw_t (i := 9) (by decide +kernel) (by decide +kernel)
theorem mI10 : Cond.instanceMethod (mY 10) ∈ gw := gw_t (i := 363) (by decide +kernel) (by decide +kernel)
theorem mS10 : Cond.selects (mY 10).cls (mY 10) (mY 10) ∈ gw := gw_t (i := 364) (by decide +kernel) (by decide +kernel)
theorem mG10 : Cond.initialized (mY 10).cls ∈ gw := gw_t (i := 1) (by decide +kernel) (by decide +kernel)
theorem mI11 : Cond.instanceMethod (mY 11) ∈ gw := gw_t (i := 368) (by decide +kernel) (by decide +kernel)
theorem mS11 : Cond.selects (mY 11).cls (mY 11) (mY 11) ∈ gw := gw_p (i := 0) (by decide +kernel) (by decide +kernel)
theorem mG11 : Cond.initialized (mY 11).cls ∈ gw := gw_t (i := 1) (by decide +kernel) (by decide +kernel)
theorem mI12 : Cond.instanceMethod (mY 12) ∈ gw := gw_t (i := 371) (by decide +kernel) (by decide +kernel)
theorem mS12 : Cond.selects (mY 12).cls (mY 12) (mY 12) ∈ gw := gw_t (i := 372) (by decide +kernel) (by decide +kernel)
theorem mG12 : Cond.initialized (mY 12).cls ∈ gw := gw_t (i := 1) (by decide +kernel) (by decide +kernel)
theorem mI13 : Cond.instanceMethod (mY 13) ∈ gw := gw_t (i := 375) (by decide +kernel) (by decide +kernel)
theorem mS13 : Cond.selects (mY 13).cls (mY 13) (mY 13) ∈ gw := gw_t (i := 376) (by decide +kernel) (by decide +kernel)
theorem mG13 : Cond.initialized (mY 13).cls ∈ gw := gw_t (i := 1) (by decide +kernel) (by decide +kernel)
theorem mI14 : Cond.instanceMethod (mY 14) ∈ gw := gw_t (i := 379) (by decide +kernel) (by decide +kernel)
theorem mS14 : Cond.selects (mY 14).cls (mY 14) (mY 14) ∈ gw := gw_t (i := 380) (by decide +kernel) (by decide +kernel)
theorem mG14 : Cond.initialized (mY 14).cls ∈ gw := gw_t (i := 2) (by decide +kernel) (by decide +kernel)
theorem mI15 : Cond.instanceMethod (mY 15) ∈ gw := gw_t (i := 383) (by decide +kernel) (by decide +kernel)
theorem mS15 : Cond.selects (mY 15).cls (mY 15) (mY 15) ∈ gw := gw_t (i := 384) (by decide +kernel) (by decide +kernel)
theorem mG15 : Cond.initialized (mY 15).cls ∈ gw := gw_t (i := 3) (by decide +kernel) (by decide +kernel)
theorem mT16 : Cond.static (mY 16) ∈ gw := gw_t (i := 387) (by decide +kernel) (by decide +kernel)
theorem mG16 : Cond.initialized (mY 16).cls ∈ gw := gw_t (i := 3) (by decide +kernel) (by decide +kernel)
theorem mI17 : Cond.instanceMethod (mY 17) ∈ gw := gw_t (i := 391) (by decide +kernel) (by decide +kernel)
theorem mS17 : Cond.selects (mY 17).cls (mY 17) (mY 17) ∈ gw := gw_p (i := 1) (by decide +kernel) (by decide +kernel)
theorem mG17 : Cond.initialized (mY 17).cls ∈ gw := gw_t (i := 3) (by decide +kernel) (by decide +kernel)
theorem mT18 : Cond.static (mY 18) ∈ gw := gw_t (i := 394) (by decide +kernel) (by decide +kernel)
theorem mG18 : Cond.initialized (mY 18).cls ∈ gw := gw_t (i := 3) (by decide +kernel) (by decide +kernel)
theorem mT19 : Cond.static (mY 19) ∈ gw := gw_t (i := 397) (by decide +kernel) (by decide +kernel)
theorem mG19 : Cond.initialized (mY 19).cls ∈ gw := gw_t (i := 3) (by decide +kernel) (by decide +kernel)
theorem mI20 : Cond.instanceMethod (mY 20) ∈ gw := gw_t (i := 401) (by decide +kernel) (by decide +kernel)
theorem mS20 : Cond.selects (mY 20).cls (mY 20) (mY 20) ∈ gw := gw_t (i := 402) (by decide +kernel) (by decide +kernel)
theorem mG20 : Cond.initialized (mY 20).cls ∈ gw := gw_t (i := 11) (by decide +kernel) (by decide +kernel)
theorem mI21 : Cond.instanceMethod (mY 21) ∈ gw := gw_t (i := 405) (by decide +kernel) (by decide +kernel)
theorem mS21 : Cond.selects (mY 21).cls (mY 21) (mY 21) ∈ gw := gw_t (i := 406) (by decide +kernel) (by decide +kernel)
theorem mG21 : Cond.initialized (mY 21).cls ∈ gw := gw_t (i := 11) (by decide +kernel) (by decide +kernel)
theorem mT22 : Cond.static (mY 22) ∈ gw := gw_t (i := 411) (by decide +kernel) (by decide +kernel)
theorem mG22 : Cond.initialized (mY 22).cls ∈ gw := gw_t (i := 12) (by decide +kernel) (by decide +kernel)
theorem mT23 : Cond.static (mY 23) ∈ gw := gw_t (i := 414) (by decide +kernel) (by decide +kernel)
theorem mG23 : Cond.initialized (mY 23).cls ∈ gw := gw_t (i := 11) (by decide +kernel) (by decide +kernel)
theorem mT24 : Cond.static (mY 24) ∈ gw := gw_t (i := 419) (by decide +kernel) (by decide +kernel)
theorem mG24 : Cond.initialized (mY 24).cls ∈ gw := gw_t (i := 13) (by decide +kernel) (by decide +kernel)
theorem mT25 : Cond.static (mY 25) ∈ gw := gw_t (i := 422) (by decide +kernel) (by decide +kernel)
theorem mG25 : Cond.initialized (mY 25).cls ∈ gw := gw_t (i := 14) (by decide +kernel) (by decide +kernel)
theorem mT26 : Cond.static (mY 26) ∈ gw := gw_t (i := 425) (by decide +kernel) (by decide +kernel)
theorem mG26 : Cond.initialized (mY 26).cls ∈ gw := gw_t (i := 14) (by decide +kernel) (by decide +kernel)
theorem mT27 : Cond.static (mY 27) ∈ gw := gw_t (i := 428) (by decide +kernel) (by decide +kernel)
theorem mG27 : Cond.initialized (mY 27).cls ∈ gw := gw_t (i := 14) (by decide +kernel) (by decide +kernel)
theorem mT28 : Cond.static (mY 28) ∈ gw := gw_t (i := 432) (by decide +kernel) (by decide +kernel)
theorem mG28 : Cond.initialized (mY 28).cls ∈ gw := gw_t (i := 14) (by decide +kernel) (by decide +kernel)
theorem mI29 : Cond.instanceMethod (mY 29) ∈ gw := gw_t (i := 442) (by decide +kernel) (by decide +kernel)
theorem mS29 : Cond.selects (mY 29).cls (mY 29) (mY 29) ∈ gw := gw_p (i := 2) (by decide +kernel) (by decide +kernel)
theorem mG29 : Cond.initialized (mY 29).cls ∈ gw := gw_t (i := 3) (by decide +kernel) (by decide +kernel)
theorem mT30 : Cond.static (mY 30) ∈ gw := gw_t (i := 445) (by decide +kernel) (by decide +kernel)
theorem mG30 : Cond.initialized (mY 30).cls ∈ gw := gw_t (i := 3) (by decide +kernel) (by decide +kernel)
theorem mI31 : Cond.instanceMethod (mY 31) ∈ gw := gw_t (i := 449) (by decide +kernel) (by decide +kernel)
theorem mS31 : Cond.selects (mY 31).cls (mY 31) (mY 31) ∈ gw := gw_p (i := 3) (by decide +kernel) (by decide +kernel)
theorem mG31 : Cond.initialized (mY 31).cls ∈ gw := gw_t (i := 3) (by decide +kernel) (by decide +kernel)
theorem mT32 : Cond.static (mY 32) ∈ gw := gw_t (i := 452) (by decide +kernel) (by decide +kernel)
theorem mG32 : Cond.initialized (mY 32).cls ∈ gw := gw_t (i := 3) (by decide +kernel) (by decide +kernel)
theorem mI33 : Cond.instanceMethod (mY 33) ∈ gw := gw_t (i := 456) (by decide +kernel) (by decide +kernel)
theorem mS33 : Cond.selects (mY 33).cls (mY 33) (mY 33) ∈ gw := gw_t (i := 457) (by decide +kernel) (by decide +kernel)
theorem mG33 : Cond.initialized (mY 33).cls ∈ gw := gw_t (i := 11) (by decide +kernel) (by decide +kernel)
theorem mI34 : Cond.instanceMethod (mY 34) ∈ gw := gw_t (i := 460) (by decide +kernel) (by decide +kernel)
theorem mS34 : Cond.selects (mY 34).cls (mY 34) (mY 34) ∈ gw := gw_t (i := 461) (by decide +kernel) (by decide +kernel)
theorem mG34 : Cond.initialized (mY 34).cls ∈ gw := gw_t (i := 11) (by decide +kernel) (by decide +kernel)
theorem mI35 : Cond.instanceMethod (mY 35) ∈ gw := gw_t (i := 464) (by decide +kernel) (by decide +kernel)
theorem mS35 : Cond.selects (mY 35).cls (mY 35) (mY 35) ∈ gw := gw_t (i := 465) (by decide +kernel) (by decide +kernel)
theorem mG35 : Cond.initialized (mY 35).cls ∈ gw := gw_t (i := 4) (by decide +kernel) (by decide +kernel)
theorem mI36 : Cond.instanceMethod (mY 36) ∈ gw := gw_t (i := 469) (by decide +kernel) (by decide +kernel)
theorem mS36 : Cond.selects (mY 36).cls (mY 36) (mY 36) ∈ gw := gw_p (i := 4) (by decide +kernel) (by decide +kernel)
theorem mG36 : Cond.initialized (mY 36).cls ∈ gw := gw_t (i := 2) (by decide +kernel) (by decide +kernel)
theorem mI37 : Cond.instanceMethod (mY 37) ∈ gw := gw_t (i := 473) (by decide +kernel) (by decide +kernel)
theorem mS37 : Cond.selects (mY 37).cls (mY 37) (mY 37) ∈ gw := gw_p (i := 5) (by decide +kernel) (by decide +kernel)
theorem mG37 : Cond.initialized (mY 37).cls ∈ gw := gw_t (i := 2) (by decide +kernel) (by decide +kernel)
theorem mT38 : Cond.static (mY 38) ∈ gw := gw_t (i := 476) (by decide +kernel) (by decide +kernel)
theorem mG38 : Cond.initialized (mY 38).cls ∈ gw := gw_t (i := 2) (by decide +kernel) (by decide +kernel)
theorem mI39 : Cond.instanceMethod (mY 39) ∈ gw := gw_t (i := 479) (by decide +kernel) (by decide +kernel)
theorem mS39 : Cond.selects (mY 39).cls (mY 39) (mY 39) ∈ gw := gw_t (i := 480) (by decide +kernel) (by decide +kernel)
theorem mG39 : Cond.initialized (mY 39).cls ∈ gw := gw_t (i := 4) (by decide +kernel) (by decide +kernel)
theorem mI40 : Cond.instanceMethod (mY 40) ∈ gw := gw_t (i := 484) (by decide +kernel) (by decide +kernel)
theorem mS40 : Cond.selects (mY 40).cls (mY 40) (mY 40) ∈ gw := gw_p (i := 6) (by decide +kernel) (by decide +kernel)
theorem mG40 : Cond.initialized (mY 40).cls ∈ gw := gw_t (i := 2) (by decide +kernel) (by decide +kernel)
theorem mI41 : Cond.instanceMethod (mY 41) ∈ gw := gw_t (i := 488) (by decide +kernel) (by decide +kernel)
theorem mS41 : Cond.selects (mY 41).cls (mY 41) (mY 41) ∈ gw := gw_p (i := 7) (by decide +kernel) (by decide +kernel)
theorem mG41 : Cond.initialized (mY 41).cls ∈ gw := gw_t (i := 2) (by decide +kernel) (by decide +kernel)
theorem mI42 : Cond.instanceMethod (mY 42) ∈ gw := gw_t (i := 492) (by decide +kernel) (by decide +kernel)
theorem mS42 : Cond.selects (mY 42).cls (mY 42) (mY 42) ∈ gw := gw_p (i := 8) (by decide +kernel) (by decide +kernel)
theorem mG42 : Cond.initialized (mY 42).cls ∈ gw := gw_t (i := 2) (by decide +kernel) (by decide +kernel)
theorem mI43 : Cond.instanceMethod (mY 43) ∈ gw := gw_t (i := 496) (by decide +kernel) (by decide +kernel)
theorem mS43 : Cond.selects (mY 43).cls (mY 43) (mY 43) ∈ gw := gw_p (i := 9) (by decide +kernel) (by decide +kernel)
theorem mG43 : Cond.initialized (mY 43).cls ∈ gw := gw_t (i := 2) (by decide +kernel) (by decide +kernel)
theorem mI44 : Cond.instanceMethod (mY 44) ∈ gw := gw_t (i := 500) (by decide +kernel) (by decide +kernel)
theorem mS44 : Cond.selects (mY 44).cls (mY 44) (mY 44) ∈ gw := gw_p (i := 10) (by decide +kernel) (by decide +kernel)
theorem mG44 : Cond.initialized (mY 44).cls ∈ gw := gw_t (i := 2) (by decide +kernel) (by decide +kernel)
theorem mI45 : Cond.instanceMethod (mY 45) ∈ gw := gw_t (i := 504) (by decide +kernel) (by decide +kernel)
theorem mS45 : Cond.selects (mY 45).cls (mY 45) (mY 45) ∈ gw := gw_p (i := 11) (by decide +kernel) (by decide +kernel)
theorem mG45 : Cond.initialized (mY 45).cls ∈ gw := gw_t (i := 2) (by decide +kernel) (by decide +kernel)
theorem mI46 : Cond.instanceMethod (mY 46) ∈ gw := gw_t (i := 508) (by decide +kernel) (by decide +kernel)
theorem mS46 : Cond.selects (mY 46).cls (mY 46) (mY 46) ∈ gw := gw_p (i := 12) (by decide +kernel) (by decide +kernel)
theorem mG46 : Cond.initialized (mY 46).cls ∈ gw := gw_t (i := 2) (by decide +kernel) (by decide +kernel)
theorem mI47 : Cond.instanceMethod (mY 47) ∈ gw := gw_t (i := 511) (by decide +kernel) (by decide +kernel)
theorem mS47 : Cond.selects (mY 47).cls (mY 47) (mY 47) ∈ gw := gw_t (i := 512) (by decide +kernel) (by decide +kernel)
theorem mG47 : Cond.initialized (mY 47).cls ∈ gw := gw_t (i := 4) (by decide +kernel) (by decide +kernel)
theorem mI48 : Cond.instanceMethod (mY 48) ∈ gw := gw_t (i := 516) (by decide +kernel) (by decide +kernel)
theorem mS48 : Cond.selects (mY 48).cls (mY 48) (mY 48) ∈ gw := gw_p (i := 13) (by decide +kernel) (by decide +kernel)
theorem mG48 : Cond.initialized (mY 48).cls ∈ gw := gw_t (i := 2) (by decide +kernel) (by decide +kernel)
theorem mI49 : Cond.instanceMethod (mY 49) ∈ gw := gw_t (i := 520) (by decide +kernel) (by decide +kernel)
theorem mS49 : Cond.selects (mY 49).cls (mY 49) (mY 49) ∈ gw := gw_p (i := 14) (by decide +kernel) (by decide +kernel)
theorem mG49 : Cond.initialized (mY 49).cls ∈ gw := gw_t (i := 2) (by decide +kernel) (by decide +kernel)
theorem mT50 : Cond.static (mY 50) ∈ gw := gw_t (i := 523) (by decide +kernel) (by decide +kernel)
theorem mG50 : Cond.initialized (mY 50).cls ∈ gw := gw_t (i := 15) (by decide +kernel) (by decide +kernel)
theorem mI51 : Cond.instanceMethod (mY 51) ∈ gw := gw_t (i := 527) (by decide +kernel) (by decide +kernel)
theorem mS51 : Cond.selects (mY 51).cls (mY 51) (mY 51) ∈ gw := gw_p (i := 15) (by decide +kernel) (by decide +kernel)
theorem mG51 : Cond.initialized (mY 51).cls ∈ gw := gw_t (i := 2) (by decide +kernel) (by decide +kernel)
theorem mI52 : Cond.instanceMethod (mY 52) ∈ gw := gw_t (i := 531) (by decide +kernel) (by decide +kernel)
theorem mS52 : Cond.selects (mY 52).cls (mY 52) (mY 52) ∈ gw := gw_p (i := 16) (by decide +kernel) (by decide +kernel)
theorem mG52 : Cond.initialized (mY 52).cls ∈ gw := gw_t (i := 2) (by decide +kernel) (by decide +kernel)
theorem mI53 : Cond.instanceMethod (mY 53) ∈ gw := gw_t (i := 536) (by decide +kernel) (by decide +kernel)
theorem mS53 : Cond.selects (mY 53).cls (mY 53) (mY 53) ∈ gw := gw_t (i := 537) (by decide +kernel) (by decide +kernel)
theorem mG53 : Cond.initialized (mY 53).cls ∈ gw := gw_t (i := 1) (by decide +kernel) (by decide +kernel)
theorem mI54 : Cond.instanceMethod (mY 54) ∈ gw := gw_t (i := 540) (by decide +kernel) (by decide +kernel)
theorem mS54 : Cond.selects (mY 54).cls (mY 54) (mY 54) ∈ gw := gw_t (i := 541) (by decide +kernel) (by decide +kernel)
theorem mG54 : Cond.initialized (mY 54).cls ∈ gw := gw_t (i := 1) (by decide +kernel) (by decide +kernel)
theorem mI55 : Cond.instanceMethod (mY 55) ∈ gw := gw_t (i := 545) (by decide +kernel) (by decide +kernel)
theorem mS55 : Cond.selects (mY 55).cls (mY 55) (mY 55) ∈ gw := gw_p (i := 17) (by decide +kernel) (by decide +kernel)
theorem mG55 : Cond.initialized (mY 55).cls ∈ gw := gw_t (i := 1) (by decide +kernel) (by decide +kernel)
theorem mI56 : Cond.instanceMethod (mY 56) ∈ gw := gw_t (i := 548) (by decide +kernel) (by decide +kernel)
theorem mS56 : Cond.selects (mY 56).cls (mY 56) (mY 56) ∈ gw := gw_t (i := 549) (by decide +kernel) (by decide +kernel)
theorem mG56 : Cond.initialized (mY 56).cls ∈ gw := gw_t (i := 1) (by decide +kernel) (by decide +kernel)
theorem mT57 : Cond.static (mY 57) ∈ gw := gw_t (i := 552) (by decide +kernel) (by decide +kernel)
theorem mG57 : Cond.initialized (mY 57).cls ∈ gw := gw_t (i := 1) (by decide +kernel) (by decide +kernel)
theorem mI58 : Cond.instanceMethod (mY 58) ∈ gw := gw_t (i := 556) (by decide +kernel) (by decide +kernel)
theorem mS58 : Cond.selects (mY 58).cls (mY 58) (mY 58) ∈ gw := gw_p (i := 18) (by decide +kernel) (by decide +kernel)
theorem mG58 : Cond.initialized (mY 58).cls ∈ gw := gw_t (i := 1) (by decide +kernel) (by decide +kernel)
theorem mI59 : Cond.instanceMethod (mY 59) ∈ gw := gw_t (i := 559) (by decide +kernel) (by decide +kernel)
theorem mS59 : Cond.selects (mY 59).cls (mY 59) (mY 59) ∈ gw := gw_t (i := 560) (by decide +kernel) (by decide +kernel)
theorem mG59 : Cond.initialized (mY 59).cls ∈ gw := gw_t (i := 7) (by decide +kernel) (by decide +kernel)
theorem mI60 : Cond.instanceMethod (mY 60) ∈ gw := gw_t (i := 563) (by decide +kernel) (by decide +kernel)
theorem mS60 : Cond.selects (mY 60).cls (mY 60) (mY 60) ∈ gw := gw_t (i := 564) (by decide +kernel) (by decide +kernel)
theorem mG60 : Cond.initialized (mY 60).cls ∈ gw := gw_t (i := 7) (by decide +kernel) (by decide +kernel)
theorem mI61 : Cond.instanceMethod (mY 61) ∈ gw := gw_t (i := 568) (by decide +kernel) (by decide +kernel)
theorem mS61 : Cond.selects (mY 61).cls (mY 61) (mY 61) ∈ gw := gw_p (i := 19) (by decide +kernel) (by decide +kernel)
theorem mG61 : Cond.initialized (mY 61).cls ∈ gw := gw_t (i := 7) (by decide +kernel) (by decide +kernel)
theorem mI62 : Cond.instanceMethod (mY 62) ∈ gw := gw_t (i := 571) (by decide +kernel) (by decide +kernel)
theorem mS62 : Cond.selects (mY 62).cls (mY 62) (mY 62) ∈ gw := gw_t (i := 572) (by decide +kernel) (by decide +kernel)
theorem mG62 : Cond.initialized (mY 62).cls ∈ gw := gw_t (i := 9) (by decide +kernel) (by decide +kernel)
theorem mI63 : Cond.instanceMethod (mY 63) ∈ gw := gw_t (i := 575) (by decide +kernel) (by decide +kernel)
theorem mS63 : Cond.selects (mY 63).cls (mY 63) (mY 63) ∈ gw := gw_t (i := 576) (by decide +kernel) (by decide +kernel)
theorem mG63 : Cond.initialized (mY 63).cls ∈ gw := gw_t (i := 9) (by decide +kernel) (by decide +kernel)
theorem mI64 : Cond.instanceMethod (mY 64) ∈ gw := gw_t (i := 579) (by decide +kernel) (by decide +kernel)
theorem mS64 : Cond.selects (mY 64).cls (mY 64) (mY 64) ∈ gw := gw_t (i := 580) (by decide +kernel) (by decide +kernel)
theorem mG64 : Cond.initialized (mY 64).cls ∈ gw := gw_t (i := 1) (by decide +kernel) (by decide +kernel)
theorem mI65 : Cond.instanceMethod (mY 65) ∈ gw := gw_t (i := 583) (by decide +kernel) (by decide +kernel)
theorem mS65 : Cond.selects (mY 65).cls (mY 65) (mY 65) ∈ gw := gw_t (i := 584) (by decide +kernel) (by decide +kernel)
theorem mG65 : Cond.initialized (mY 65).cls ∈ gw := gw_t (i := 5) (by decide +kernel) (by decide +kernel)
theorem mI66 : Cond.instanceMethod (mY 66) ∈ gw := gw_t (i := 587) (by decide +kernel) (by decide +kernel)
theorem mS66 : Cond.selects (mY 66).cls (mY 66) (mY 66) ∈ gw := gw_t (i := 588) (by decide +kernel) (by decide +kernel)
theorem mG66 : Cond.initialized (mY 66).cls ∈ gw := gw_t (i := 7) (by decide +kernel) (by decide +kernel)
theorem mI67 : Cond.instanceMethod (mY 67) ∈ gw := gw_t (i := 591) (by decide +kernel) (by decide +kernel)
theorem mS67 : Cond.selects (mY 67).cls (mY 67) (mY 67) ∈ gw := gw_t (i := 592) (by decide +kernel) (by decide +kernel)
theorem mG67 : Cond.initialized (mY 67).cls ∈ gw := gw_t (i := 8) (by decide +kernel) (by decide +kernel)
theorem mI68 : Cond.instanceMethod (mY 68) ∈ gw := gw_t (i := 596) (by decide +kernel) (by decide +kernel)
theorem mS68 : Cond.selects (mY 68).cls (mY 68) (mY 68) ∈ gw := gw_p (i := 20) (by decide +kernel) (by decide +kernel)
theorem mG68 : Cond.initialized (mY 68).cls ∈ gw := gw_t (i := 5) (by decide +kernel) (by decide +kernel)
theorem mI69 : Cond.instanceMethod (mY 69) ∈ gw := gw_t (i := 599) (by decide +kernel) (by decide +kernel)
theorem mS69 : Cond.selects (mY 69).cls (mY 69) (mY 69) ∈ gw := gw_t (i := 600) (by decide +kernel) (by decide +kernel)
theorem mG69 : Cond.initialized (mY 69).cls ∈ gw := gw_t (i := 7) (by decide +kernel) (by decide +kernel)
theorem mI70 : Cond.instanceMethod (mY 70) ∈ gw := gw_t (i := 603) (by decide +kernel) (by decide +kernel)
theorem mS70 : Cond.selects (mY 70).cls (mY 70) (mY 70) ∈ gw := gw_t (i := 604) (by decide +kernel) (by decide +kernel)
theorem mG70 : Cond.initialized (mY 70).cls ∈ gw := gw_t (i := 7) (by decide +kernel) (by decide +kernel)
theorem mI71 : Cond.instanceMethod (mY 71) ∈ gw := gw_t (i := 608) (by decide +kernel) (by decide +kernel)
theorem mS71 : Cond.selects (mY 71).cls (mY 71) (mY 71) ∈ gw := gw_p (i := 21) (by decide +kernel) (by decide +kernel)
theorem mG71 : Cond.initialized (mY 71).cls ∈ gw := gw_t (i := 7) (by decide +kernel) (by decide +kernel)
theorem mI72 : Cond.instanceMethod (mY 72) ∈ gw := gw_t (i := 611) (by decide +kernel) (by decide +kernel)
theorem mS72 : Cond.selects (mY 72).cls (mY 72) (mY 72) ∈ gw := gw_t (i := 612) (by decide +kernel) (by decide +kernel)
theorem mG72 : Cond.initialized (mY 72).cls ∈ gw := gw_t (i := 4) (by decide +kernel) (by decide +kernel)
theorem mI73 : Cond.instanceMethod (mY 73) ∈ gw := gw_t (i := 616) (by decide +kernel) (by decide +kernel)
theorem mS73 : Cond.selects (mY 73).cls (mY 73) (mY 73) ∈ gw := gw_t (i := 617) (by decide +kernel) (by decide +kernel)
theorem mG73 : Cond.initialized (mY 73).cls ∈ gw := gw_t (i := 6) (by decide +kernel) (by decide +kernel)
theorem mI74 : Cond.instanceMethod (mY 74) ∈ gw := gw_t (i := 621) (by decide +kernel) (by decide +kernel)
theorem mS74 : Cond.selects (mY 74).cls (mY 74) (mY 74) ∈ gw := gw_p (i := 22) (by decide +kernel) (by decide +kernel)
theorem mG74 : Cond.initialized (mY 74).cls ∈ gw := gw_t (i := 7) (by decide +kernel) (by decide +kernel)
theorem mI75 : Cond.instanceMethod (mY 75) ∈ gw := gw_t (i := 626) (by decide +kernel) (by decide +kernel)
theorem mS75 : Cond.selects (mY 75).cls (mY 75) (mY 75) ∈ gw := gw_p (i := 23) (by decide +kernel) (by decide +kernel)
theorem mG75 : Cond.initialized (mY 75).cls ∈ gw := gw_t (i := 7) (by decide +kernel) (by decide +kernel)
theorem mI76 : Cond.instanceMethod (mY 76) ∈ gw := gw_t (i := 630) (by decide +kernel) (by decide +kernel)
theorem mS76 : Cond.selects (mY 76).cls (mY 76) (mY 76) ∈ gw := gw_p (i := 24) (by decide +kernel) (by decide +kernel)
theorem mG76 : Cond.initialized (mY 76).cls ∈ gw := gw_t (i := 7) (by decide +kernel) (by decide +kernel)
theorem mI77 : Cond.instanceMethod (mY 77) ∈ gw := gw_t (i := 633) (by decide +kernel) (by decide +kernel)
theorem mS77 : Cond.selects (mY 77).cls (mY 77) (mY 77) ∈ gw := gw_t (i := 634) (by decide +kernel) (by decide +kernel)
theorem mG77 : Cond.initialized (mY 77).cls ∈ gw := gw_t (i := 8) (by decide +kernel) (by decide +kernel)
theorem mI78 : Cond.instanceMethod (mY 78) ∈ gw := gw_t (i := 637) (by decide +kernel) (by decide +kernel)
theorem mS78 : Cond.selects (mY 78).cls (mY 78) (mY 78) ∈ gw := gw_t (i := 638) (by decide +kernel) (by decide +kernel)
theorem mG78 : Cond.initialized (mY 78).cls ∈ gw := gw_t (i := 8) (by decide +kernel) (by decide +kernel)
theorem mI79 : Cond.instanceMethod (mY 79) ∈ gw := gw_t (i := 641) (by decide +kernel) (by decide +kernel)
theorem mS79 : Cond.selects (mY 79).cls (mY 79) (mY 79) ∈ gw := gw_t (i := 642) (by decide +kernel) (by decide +kernel)
theorem mG79 : Cond.initialized (mY 79).cls ∈ gw := gw_t (i := 7) (by decide +kernel) (by decide +kernel)
theorem mI80 : Cond.instanceMethod (mY 80) ∈ gw := gw_t (i := 646) (by decide +kernel) (by decide +kernel)
theorem mS80 : Cond.selects (mY 80).cls (mY 80) (mY 80) ∈ gw := gw_p (i := 25) (by decide +kernel) (by decide +kernel)
theorem mG80 : Cond.initialized (mY 80).cls ∈ gw := gw_t (i := 5) (by decide +kernel) (by decide +kernel)
theorem mI81 : Cond.instanceMethod (mY 81) ∈ gw := gw_t (i := 650) (by decide +kernel) (by decide +kernel)
theorem mS81 : Cond.selects (mY 81).cls (mY 81) (mY 81) ∈ gw := gw_p (i := 26) (by decide +kernel) (by decide +kernel)
theorem mG81 : Cond.initialized (mY 81).cls ∈ gw := gw_t (i := 5) (by decide +kernel) (by decide +kernel)
theorem mI82 : Cond.instanceMethod (mY 82) ∈ gw := gw_t (i := 653) (by decide +kernel) (by decide +kernel)
theorem mS82 : Cond.selects (mY 82).cls (mY 82) (mY 82) ∈ gw := gw_t (i := 654) (by decide +kernel) (by decide +kernel)
theorem mG82 : Cond.initialized (mY 82).cls ∈ gw := gw_t (i := 8) (by decide +kernel) (by decide +kernel)
theorem mI83 : Cond.instanceMethod (mY 83) ∈ gw := gw_t (i := 660) (by decide +kernel) (by decide +kernel)
theorem mS83 : Cond.selects (mY 83).cls (mY 83) (mY 83) ∈ gw := gw_t (i := 661) (by decide +kernel) (by decide +kernel)
theorem mG83 : Cond.initialized (mY 83).cls ∈ gw := gw_t (i := 7) (by decide +kernel) (by decide +kernel)
theorem mI84 : Cond.instanceMethod (mY 84) ∈ gw := gw_t (i := 665) (by decide +kernel) (by decide +kernel)
theorem mS84 : Cond.selects (mY 84).cls (mY 84) (mY 84) ∈ gw := gw_p (i := 27) (by decide +kernel) (by decide +kernel)
theorem mG84 : Cond.initialized (mY 84).cls ∈ gw := gw_t (i := 5) (by decide +kernel) (by decide +kernel)
theorem mI85 : Cond.instanceMethod (mY 85) ∈ gw := gw_t (i := 668) (by decide +kernel) (by decide +kernel)
theorem mS85 : Cond.selects (mY 85).cls (mY 85) (mY 85) ∈ gw := gw_t (i := 669) (by decide +kernel) (by decide +kernel)
theorem mG85 : Cond.initialized (mY 85).cls ∈ gw := gw_t (i := 4) (by decide +kernel) (by decide +kernel)
theorem mT86 : Cond.static (mY 86) ∈ gw := gw_t (i := 672) (by decide +kernel) (by decide +kernel)
theorem mG86 : Cond.initialized (mY 86).cls ∈ gw := gw_t (i := 4) (by decide +kernel) (by decide +kernel)
theorem mI87 : Cond.instanceMethod (mY 87) ∈ gw := gw_t (i := 676) (by decide +kernel) (by decide +kernel)
theorem mS87 : Cond.selects (mY 87).cls (mY 87) (mY 87) ∈ gw := gw_t (i := 677) (by decide +kernel) (by decide +kernel)
theorem mG87 : Cond.initialized (mY 87).cls ∈ gw := gw_t (i := 7) (by decide +kernel) (by decide +kernel)
theorem mI88 : Cond.instanceMethod (mY 88) ∈ gw := gw_t (i := 681) (by decide +kernel) (by decide +kernel)
theorem mS88 : Cond.selects (mY 88).cls (mY 88) (mY 88) ∈ gw := gw_p (i := 28) (by decide +kernel) (by decide +kernel)
theorem mG88 : Cond.initialized (mY 88).cls ∈ gw := gw_t (i := 5) (by decide +kernel) (by decide +kernel)
theorem mI89 : Cond.instanceMethod (mY 89) ∈ gw := gw_t (i := 685) (by decide +kernel) (by decide +kernel)
theorem mS89 : Cond.selects (mY 89).cls (mY 89) (mY 89) ∈ gw := gw_p (i := 29) (by decide +kernel) (by decide +kernel)
theorem mG89 : Cond.initialized (mY 89).cls ∈ gw := gw_t (i := 5) (by decide +kernel) (by decide +kernel)
theorem mI90 : Cond.instanceMethod (mY 90) ∈ gw := gw_t (i := 689) (by decide +kernel) (by decide +kernel)
theorem mS90 : Cond.selects (mY 90).cls (mY 90) (mY 90) ∈ gw := gw_p (i := 30) (by decide +kernel) (by decide +kernel)
theorem mG90 : Cond.initialized (mY 90).cls ∈ gw := gw_t (i := 5) (by decide +kernel) (by decide +kernel)
theorem mT91 : Cond.static (mY 91) ∈ gw := gw_t (i := 692) (by decide +kernel) (by decide +kernel)
theorem mG91 : Cond.initialized (mY 91).cls ∈ gw := gw_t (i := 5) (by decide +kernel) (by decide +kernel)
theorem mI92 : Cond.instanceMethod (mY 92) ∈ gw := gw_t (i := 696) (by decide +kernel) (by decide +kernel)
theorem mS92 : Cond.selects (mY 92).cls (mY 92) (mY 92) ∈ gw := gw_p (i := 31) (by decide +kernel) (by decide +kernel)
theorem mG92 : Cond.initialized (mY 92).cls ∈ gw := gw_t (i := 5) (by decide +kernel) (by decide +kernel)
theorem mI93 : Cond.instanceMethod (mY 93) ∈ gw := gw_t (i := 701) (by decide +kernel) (by decide +kernel)
theorem mS93 : Cond.selects (mY 93).cls (mY 93) (mY 93) ∈ gw := gw_t (i := 702) (by decide +kernel) (by decide +kernel)
theorem mG93 : Cond.initialized (mY 93).cls ∈ gw := gw_t (i := 7) (by decide +kernel) (by decide +kernel)
theorem mI94 : Cond.instanceMethod (mY 94) ∈ gw := gw_t (i := 706) (by decide +kernel) (by decide +kernel)
theorem mS94 : Cond.selects (mY 94).cls (mY 94) (mY 94) ∈ gw := gw_p (i := 32) (by decide +kernel) (by decide +kernel)
theorem mG94 : Cond.initialized (mY 94).cls ∈ gw := gw_t (i := 7) (by decide +kernel) (by decide +kernel)
theorem mI95 : Cond.instanceMethod (mY 95) ∈ gw := gw_t (i := 711) (by decide +kernel) (by decide +kernel)
theorem mS95 : Cond.selects (mY 95).cls (mY 95) (mY 95) ∈ gw := gw_p (i := 33) (by decide +kernel) (by decide +kernel)
theorem mG95 : Cond.initialized (mY 95).cls ∈ gw := gw_t (i := 7) (by decide +kernel) (by decide +kernel)
theorem mI96 : Cond.instanceMethod (mY 96) ∈ gw := gw_t (i := 714) (by decide +kernel) (by decide +kernel)
theorem mS96 : Cond.selects (mY 96).cls (mY 96) (mY 96) ∈ gw := gw_t (i := 715) (by decide +kernel) (by decide +kernel)
theorem mG96 : Cond.initialized (mY 96).cls ∈ gw := gw_t (i := 1) (by decide +kernel) (by decide +kernel)
theorem mI97 : Cond.instanceMethod (mY 97) ∈ gw := gw_t (i := 720) (by decide +kernel) (by decide +kernel)
theorem mS97 : Cond.selects (mY 97).cls (mY 97) (mY 97) ∈ gw := gw_t (i := 721) (by decide +kernel) (by decide +kernel)
theorem mG97 : Cond.initialized (mY 97).cls ∈ gw := gw_t (i := 1) (by decide +kernel) (by decide +kernel)
theorem mI98 : Cond.instanceMethod (mY 98) ∈ gw := gw_t (i := 724) (by decide +kernel) (by decide +kernel)
theorem mS98 : Cond.selects (mY 98).cls (mY 98) (mY 98) ∈ gw := gw_t (i := 725) (by decide +kernel) (by decide +kernel)
theorem mG98 : Cond.initialized (mY 98).cls ∈ gw := gw_t (i := 8) (by decide +kernel) (by decide +kernel)
theorem mI99 : Cond.instanceMethod (mY 99) ∈ gw := gw_t (i := 729) (by decide +kernel) (by decide +kernel)
theorem mS99 : Cond.selects (mY 99).cls (mY 99) (mY 99) ∈ gw := gw_t (i := 730) (by decide +kernel) (by decide +kernel)
theorem mG99 : Cond.initialized (mY 99).cls ∈ gw := gw_t (i := 1) (by decide +kernel) (by decide +kernel)
theorem mT100 : Cond.static (mY 100) ∈ gw := gw_t (i := 733) (by decide +kernel) (by decide +kernel)
theorem mG100 : Cond.initialized (mY 100).cls ∈ gw := gw_t (i := 1) (by decide +kernel) (by decide +kernel)
theorem mI101 : Cond.instanceMethod (mY 101) ∈ gw := gw_t (i := 736) (by decide +kernel) (by decide +kernel)
theorem mS101 : Cond.selects (mY 101).cls (mY 101) (mY 101) ∈ gw := gw_t (i := 737) (by decide +kernel) (by decide +kernel)
theorem mG101 : Cond.initialized (mY 101).cls ∈ gw := gw_t (i := 1) (by decide +kernel) (by decide +kernel)
theorem mI102 : Cond.instanceMethod (mY 102) ∈ gw := gw_t (i := 740) (by decide +kernel) (by decide +kernel)
theorem mS102 : Cond.selects (mY 102).cls (mY 102) (mY 102) ∈ gw := gw_t (i := 741) (by decide +kernel) (by decide +kernel)
theorem mG102 : Cond.initialized (mY 102).cls ∈ gw := gw_t (i := 1) (by decide +kernel) (by decide +kernel)
theorem mI103 : Cond.instanceMethod (mY 103) ∈ gw := gw_t (i := 744) (by decide +kernel) (by decide +kernel)
theorem mS103 : Cond.selects (mY 103).cls (mY 103) (mY 103) ∈ gw := gw_t (i := 745) (by decide +kernel) (by decide +kernel)
theorem mG103 : Cond.initialized (mY 103).cls ∈ gw := gw_t (i := 1) (by decide +kernel) (by decide +kernel)
theorem mI104 : Cond.instanceMethod (mY 104) ∈ gw := gw_t (i := 748) (by decide +kernel) (by decide +kernel)
theorem mS104 : Cond.selects (mY 104).cls (mY 104) (mY 104) ∈ gw := gw_t (i := 749) (by decide +kernel) (by decide +kernel)
theorem mG104 : Cond.initialized (mY 104).cls ∈ gw := gw_t (i := 7) (by decide +kernel) (by decide +kernel)
theorem mI105 : Cond.instanceMethod (mY 105) ∈ gw := gw_t (i := 752) (by decide +kernel) (by decide +kernel)
theorem mS105 : Cond.selects (mY 105).cls (mY 105) (mY 105) ∈ gw := gw_t (i := 753) (by decide +kernel) (by decide +kernel)
theorem mG105 : Cond.initialized (mY 105).cls ∈ gw := gw_t (i := 1) (by decide +kernel) (by decide +kernel)
theorem mI106 : Cond.instanceMethod (mY 106) ∈ gw := gw_t (i := 756) (by decide +kernel) (by decide +kernel)
theorem mS106 : Cond.selects (mY 106).cls (mY 106) (mY 106) ∈ gw := gw_t (i := 757) (by decide +kernel) (by decide +kernel)
theorem mG106 : Cond.initialized (mY 106).cls ∈ gw := gw_t (i := 1) (by decide +kernel) (by decide +kernel)
theorem mI107 : Cond.instanceMethod (mY 107) ∈ gw := gw_t (i := 760) (by decide +kernel) (by decide +kernel)
theorem mS107 : Cond.selects (mY 107).cls (mY 107) (mY 107) ∈ gw := gw_t (i := 761) (by decide +kernel) (by decide +kernel)
theorem mG107 : Cond.initialized (mY 107).cls ∈ gw := gw_t (i := 1) (by decide +kernel) (by decide +kernel)
theorem mI108 : Cond.instanceMethod (mY 108) ∈ gw := gw_t (i := 765) (by decide +kernel) (by decide +kernel)
theorem mS108 : Cond.selects (mY 108).cls (mY 108) (mY 108) ∈ gw := gw_p (i := 34) (by decide +kernel) (by decide +kernel)
theorem mG108 : Cond.initialized (mY 108).cls ∈ gw := gw_t (i := 1) (by decide +kernel) (by decide +kernel)
theorem mI109 : Cond.instanceMethod (mY 109) ∈ gw := gw_t (i := 768) (by decide +kernel) (by decide +kernel)
theorem mS109 : Cond.selects (mY 109).cls (mY 109) (mY 109) ∈ gw := gw_t (i := 769) (by decide +kernel) (by decide +kernel)
theorem mG109 : Cond.initialized (mY 109).cls ∈ gw := gw_t (i := 1) (by decide +kernel) (by decide +kernel)
theorem mI110 : Cond.instanceMethod (mY 110) ∈ gw := gw_t (i := 772) (by decide +kernel) (by decide +kernel)
theorem mS110 : Cond.selects (mY 110).cls (mY 110) (mY 110) ∈ gw := gw_t (i := 773) (by decide +kernel) (by decide +kernel)
theorem mG110 : Cond.initialized (mY 110).cls ∈ gw := gw_t (i := 1) (by decide +kernel) (by decide +kernel)
theorem mI111 : Cond.instanceMethod (mY 111) ∈ gw := gw_t (i := 776) (by decide +kernel) (by decide +kernel)
theorem mS111 : Cond.selects (mY 111).cls (mY 111) (mY 111) ∈ gw := gw_t (i := 777) (by decide +kernel) (by decide +kernel)
theorem mG111 : Cond.initialized (mY 111).cls ∈ gw := gw_t (i := 5) (by decide +kernel) (by decide +kernel)
theorem mI112 : Cond.instanceMethod (mY 112) ∈ gw := gw_t (i := 781) (by decide +kernel) (by decide +kernel)
theorem mS112 : Cond.selects (mY 112).cls (mY 112) (mY 112) ∈ gw := gw_p (i := 35) (by decide +kernel) (by decide +kernel)
theorem mG112 : Cond.initialized (mY 112).cls ∈ gw := gw_t (i := 5) (by decide +kernel) (by decide +kernel)
theorem mI113 : Cond.instanceMethod (mY 113) ∈ gw := gw_t (i := 784) (by decide +kernel) (by decide +kernel)
theorem mS113 : Cond.selects (mY 113).cls (mY 113) (mY 113) ∈ gw := gw_t (i := 785) (by decide +kernel) (by decide +kernel)
theorem mG113 : Cond.initialized (mY 113).cls ∈ gw := gw_t (i := 7) (by decide +kernel) (by decide +kernel)
theorem mI114 : Cond.instanceMethod (mY 114) ∈ gw := gw_t (i := 788) (by decide +kernel) (by decide +kernel)
theorem mS114 : Cond.selects (mY 114).cls (mY 114) (mY 114) ∈ gw := gw_t (i := 789) (by decide +kernel) (by decide +kernel)
theorem mG114 : Cond.initialized (mY 114).cls ∈ gw := gw_t (i := 8) (by decide +kernel) (by decide +kernel)
theorem mI115 : Cond.instanceMethod (mY 115) ∈ gw := gw_t (i := 792) (by decide +kernel) (by decide +kernel)
theorem mS115 : Cond.selects (mY 115).cls (mY 115) (mY 115) ∈ gw := gw_t (i := 793) (by decide +kernel) (by decide +kernel)
theorem mG115 : Cond.initialized (mY 115).cls ∈ gw := gw_t (i := 9) (by decide +kernel) (by decide +kernel)
theorem mI116 : Cond.instanceMethod (mY 116) ∈ gw := gw_t (i := 796) (by decide +kernel) (by decide +kernel)
theorem mS116 : Cond.selects (mY 116).cls (mY 116) (mY 116) ∈ gw := gw_t (i := 797) (by decide +kernel) (by decide +kernel)
theorem mG116 : Cond.initialized (mY 116).cls ∈ gw := gw_t (i := 1) (by decide +kernel) (by decide +kernel)
theorem mI117 : Cond.instanceMethod (mY 117) ∈ gw := gw_t (i := 800) (by decide +kernel) (by decide +kernel)
theorem mS117 : Cond.selects (mY 117).cls (mY 117) (mY 117) ∈ gw := gw_t (i := 801) (by decide +kernel) (by decide +kernel)
theorem mG117 : Cond.initialized (mY 117).cls ∈ gw := gw_t (i := 1) (by decide +kernel) (by decide +kernel)
theorem mI118 : Cond.instanceMethod (mY 118) ∈ gw := gw_t (i := 804) (by decide +kernel) (by decide +kernel)
theorem mS118 : Cond.selects (mY 118).cls (mY 118) (mY 118) ∈ gw := gw_t (i := 805) (by decide +kernel) (by decide +kernel)
theorem mG118 : Cond.initialized (mY 118).cls ∈ gw := gw_t (i := 1) (by decide +kernel) (by decide +kernel)
theorem mI119 : Cond.instanceMethod (mY 119) ∈ gw := gw_t (i := 809) (by decide +kernel) (by decide +kernel)
theorem mS119 : Cond.selects (mY 119).cls (mY 119) (mY 119) ∈ gw := gw_p (i := 36) (by decide +kernel) (by decide +kernel)
theorem mG119 : Cond.initialized (mY 119).cls ∈ gw := gw_t (i := 1) (by decide +kernel) (by decide +kernel)
theorem mI120 : Cond.instanceMethod (mY 120) ∈ gw := gw_t (i := 812) (by decide +kernel) (by decide +kernel)
theorem mS120 : Cond.selects (mY 120).cls (mY 120) (mY 120) ∈ gw := gw_t (i := 813) (by decide +kernel) (by decide +kernel)
theorem mG120 : Cond.initialized (mY 120).cls ∈ gw := gw_t (i := 1) (by decide +kernel) (by decide +kernel)
theorem mI121 : Cond.instanceMethod (mY 121) ∈ gw := gw_t (i := 816) (by decide +kernel) (by decide +kernel)
theorem mS121 : Cond.selects (mY 121).cls (mY 121) (mY 121) ∈ gw := gw_t (i := 817) (by decide +kernel) (by decide +kernel)
theorem mG121 : Cond.initialized (mY 121).cls ∈ gw := gw_t (i := 1) (by decide +kernel) (by decide +kernel)
theorem mI122 : Cond.instanceMethod (mY 122) ∈ gw := gw_t (i := 820) (by decide +kernel) (by decide +kernel)
theorem mS122 : Cond.selects (mY 122).cls (mY 122) (mY 122) ∈ gw := gw_t (i := 821) (by decide +kernel) (by decide +kernel)
theorem mG122 : Cond.initialized (mY 122).cls ∈ gw := gw_t (i := 5) (by decide +kernel) (by decide +kernel)
theorem mI123 : Cond.instanceMethod (mY 123) ∈ gw := gw_t (i := 827) (by decide +kernel) (by decide +kernel)
theorem mG123 : Cond.initialized (mY 123).cls ∈ gw := gw_t (i := 10) (by decide +kernel) (by decide +kernel)
theorem mI124 : Cond.instanceMethod (mY 124) ∈ gw := gw_t (i := 1039) (by decide +kernel) (by decide +kernel)
theorem mS124 : Cond.selects (mY 124).cls (mY 124) (mY 124) ∈ gw := gw_t (i := 1040) (by decide +kernel) (by decide +kernel)
theorem mG124 : Cond.initialized (mY 124).cls ∈ gw := gw_t (i := 10) (by decide +kernel) (by decide +kernel)
theorem mI125 : Cond.instanceMethod (mY 125) ∈ gw := gw_t (i := 1043) (by decide +kernel) (by decide +kernel)
theorem mS125 : Cond.selects (mY 125).cls (mY 125) (mY 125) ∈ gw := gw_t (i := 1044) (by decide +kernel) (by decide +kernel)
theorem mG125 : Cond.initialized (mY 125).cls ∈ gw := gw_t (i := 10) (by decide +kernel) (by decide +kernel)
theorem mI126 : Cond.instanceMethod (mY 126) ∈ gw := gw_t (i := 1047) (by decide +kernel) (by decide +kernel)
theorem mS126 : Cond.selects (mY 126).cls (mY 126) (mY 126) ∈ gw := gw_t (i := 1048) (by decide +kernel) (by decide +kernel)
theorem mG126 : Cond.initialized (mY 126).cls ∈ gw := gw_t (i := 10) (by decide +kernel) (by decide +kernel)
theorem mI127 : Cond.instanceMethod (mY 127) ∈ gw := gw_t (i := 1052) (by decide +kernel) (by decide +kernel)
theorem mS127 : Cond.selects (mY 127).cls (mY 127) (mY 127) ∈ gw := gw_p (i := 37) (by decide +kernel) (by decide +kernel)
theorem mG127 : Cond.initialized (mY 127).cls ∈ gw := gw_t (i := 10) (by decide +kernel) (by decide +kernel)
theorem mI128 : Cond.instanceMethod (mY 128) ∈ gw := gw_t (i := 1056) (by decide +kernel) (by decide +kernel)
theorem mS128 : Cond.selects (mY 128).cls (mY 128) (mY 128) ∈ gw := gw_p (i := 38) (by decide +kernel) (by decide +kernel)
theorem mG128 : Cond.initialized (mY 128).cls ∈ gw := gw_t (i := 10) (by decide +kernel) (by decide +kernel)
theorem mI129 : Cond.instanceMethod (mY 129) ∈ gw := gw_t (i := 1060) (by decide +kernel) (by decide +kernel)
theorem mS129 : Cond.selects (mY 129).cls (mY 129) (mY 129) ∈ gw := gw_p (i := 39) (by decide +kernel) (by decide +kernel)
theorem mG129 : Cond.initialized (mY 129).cls ∈ gw := gw_t (i := 10) (by decide +kernel) (by decide +kernel)
theorem mT130 : Cond.static (mY 130) ∈ gw := gw_t (i := 1063) (by decide +kernel) (by decide +kernel)
theorem mG130 : Cond.initialized (mY 130).cls ∈ gw := gw_t (i := 10) (by decide +kernel) (by decide +kernel)
theorem mT131 : Cond.static (mY 131) ∈ gw := gw_t (i := 1066) (by decide +kernel) (by decide +kernel)
theorem mG131 : Cond.initialized (mY 131).cls ∈ gw := gw_t (i := 10) (by decide +kernel) (by decide +kernel)
theorem mT132 : Cond.static (mY 132) ∈ gw := gw_t (i := 1088) (by decide +kernel) (by decide +kernel)
theorem mG132 : Cond.initialized (mY 132).cls ∈ gw := gw_t (i := 10) (by decide +kernel) (by decide +kernel)
theorem mT133 : Cond.static (mY 133) ∈ gw := gw_t (i := 1093) (by decide +kernel) (by decide +kernel)
theorem mG133 : Cond.initialized (mY 133).cls ∈ gw := gw_t (i := 10) (by decide +kernel) (by decide +kernel)
theorem mI134 : Cond.instanceMethod (mY 134) ∈ gw := gw_t (i := 1097) (by decide +kernel) (by decide +kernel)
theorem mS134 : Cond.selects (mY 134).cls (mY 134) (mY 134) ∈ gw := gw_p (i := 40) (by decide +kernel) (by decide +kernel)
theorem mG134 : Cond.initialized (mY 134).cls ∈ gw := gw_t (i := 10) (by decide +kernel) (by decide +kernel)
theorem mI135 : Cond.instanceMethod (mY 135) ∈ gw := gw_t (i := 1101) (by decide +kernel) (by decide +kernel)
theorem mS135 : Cond.selects (mY 135).cls (mY 135) (mY 135) ∈ gw := gw_p (i := 41) (by decide +kernel) (by decide +kernel)
theorem mG135 : Cond.initialized (mY 135).cls ∈ gw := gw_t (i := 10) (by decide +kernel) (by decide +kernel)
theorem mI136 : Cond.instanceMethod (mY 136) ∈ gw := gw_t (i := 1105) (by decide +kernel) (by decide +kernel)
theorem mS136 : Cond.selects (mY 136).cls (mY 136) (mY 136) ∈ gw := gw_p (i := 42) (by decide +kernel) (by decide +kernel)
theorem mG136 : Cond.initialized (mY 136).cls ∈ gw := gw_t (i := 10) (by decide +kernel) (by decide +kernel)
theorem mI137 : Cond.instanceMethod (mY 137) ∈ gw := gw_t (i := 1109) (by decide +kernel) (by decide +kernel)
theorem mS137 : Cond.selects (mY 137).cls (mY 137) (mY 137) ∈ gw := gw_p (i := 43) (by decide +kernel) (by decide +kernel)
theorem mG137 : Cond.initialized (mY 137).cls ∈ gw := gw_t (i := 10) (by decide +kernel) (by decide +kernel)
theorem mI138 : Cond.instanceMethod (mY 138) ∈ gw := gw_t (i := 1113) (by decide +kernel) (by decide +kernel)
theorem mS138 : Cond.selects (mY 138).cls (mY 138) (mY 138) ∈ gw := gw_p (i := 44) (by decide +kernel) (by decide +kernel)
theorem mG138 : Cond.initialized (mY 138).cls ∈ gw := gw_t (i := 10) (by decide +kernel) (by decide +kernel)
theorem mI139 : Cond.instanceMethod (mY 139) ∈ gw := gw_t (i := 1117) (by decide +kernel) (by decide +kernel)
theorem mS139 : Cond.selects (mY 139).cls (mY 139) (mY 139) ∈ gw := gw_p (i := 45) (by decide +kernel) (by decide +kernel)
theorem mG139 : Cond.initialized (mY 139).cls ∈ gw := gw_t (i := 10) (by decide +kernel) (by decide +kernel)
theorem mI140 : Cond.instanceMethod (mY 140) ∈ gw := gw_t (i := 1121) (by decide +kernel) (by decide +kernel)
theorem mS140 : Cond.selects (mY 140).cls (mY 140) (mY 140) ∈ gw := gw_p (i := 46) (by decide +kernel) (by decide +kernel)
theorem mG140 : Cond.initialized (mY 140).cls ∈ gw := gw_t (i := 10) (by decide +kernel) (by decide +kernel)
theorem mI141 : Cond.instanceMethod (mY 141) ∈ gw := gw_t (i := 1125) (by decide +kernel) (by decide +kernel)
theorem mS141 : Cond.selects (mY 141).cls (mY 141) (mY 141) ∈ gw := gw_p (i := 47) (by decide +kernel) (by decide +kernel)
theorem mG141 : Cond.initialized (mY 141).cls ∈ gw := gw_t (i := 10) (by decide +kernel) (by decide +kernel)
theorem mT142 : Cond.static (mY 142) ∈ gw := gw_t (i := 1128) (by decide +kernel) (by decide +kernel)
theorem mG142 : Cond.initialized (mY 142).cls ∈ gw := gw_t (i := 10) (by decide +kernel) (by decide +kernel)
theorem mI143 : Cond.instanceMethod (mY 143) ∈ gw := gw_t (i := 1132) (by decide +kernel) (by decide +kernel)
theorem mS143 : Cond.selects (mY 143).cls (mY 143) (mY 143) ∈ gw := gw_p (i := 48) (by decide +kernel) (by decide +kernel)
theorem mG143 : Cond.initialized (mY 143).cls ∈ gw := gw_t (i := 10) (by decide +kernel) (by decide +kernel)
theorem mI144 : Cond.instanceMethod (mY 144) ∈ gw := gw_t (i := 1136) (by decide +kernel) (by decide +kernel)
theorem mS144 : Cond.selects (mY 144).cls (mY 144) (mY 144) ∈ gw := gw_p (i := 49) (by decide +kernel) (by decide +kernel)
theorem mG144 : Cond.initialized (mY 144).cls ∈ gw := gw_t (i := 10) (by decide +kernel) (by decide +kernel)
theorem mI145 : Cond.instanceMethod (mY 145) ∈ gw := gw_t (i := 1140) (by decide +kernel) (by decide +kernel)
theorem mS145 : Cond.selects (mY 145).cls (mY 145) (mY 145) ∈ gw := gw_p (i := 50) (by decide +kernel) (by decide +kernel)
theorem mG145 : Cond.initialized (mY 145).cls ∈ gw := gw_t (i := 10) (by decide +kernel) (by decide +kernel)
theorem mI146 : Cond.instanceMethod (mY 146) ∈ gw := gw_t (i := 1144) (by decide +kernel) (by decide +kernel)
theorem mS146 : Cond.selects (mY 146).cls (mY 146) (mY 146) ∈ gw := gw_p (i := 51) (by decide +kernel) (by decide +kernel)
theorem mG146 : Cond.initialized (mY 146).cls ∈ gw := gw_t (i := 10) (by decide +kernel) (by decide +kernel)
theorem mI147 : Cond.instanceMethod (mY 147) ∈ gw := gw_t (i := 1148) (by decide +kernel) (by decide +kernel)
theorem mS147 : Cond.selects (mY 147).cls (mY 147) (mY 147) ∈ gw := gw_p (i := 52) (by decide +kernel) (by decide +kernel)
theorem mG147 : Cond.initialized (mY 147).cls ∈ gw := gw_t (i := 10) (by decide +kernel) (by decide +kernel)
theorem mI148 : Cond.instanceMethod (mY 148) ∈ gw := gw_t (i := 1152) (by decide +kernel) (by decide +kernel)
theorem mS148 : Cond.selects (mY 148).cls (mY 148) (mY 148) ∈ gw := gw_p (i := 53) (by decide +kernel) (by decide +kernel)
theorem mG148 : Cond.initialized (mY 148).cls ∈ gw := gw_t (i := 10) (by decide +kernel) (by decide +kernel)
theorem mI149 : Cond.instanceMethod (mY 149) ∈ gw := gw_t (i := 1156) (by decide +kernel) (by decide +kernel)
theorem mS149 : Cond.selects (mY 149).cls (mY 149) (mY 149) ∈ gw := gw_p (i := 54) (by decide +kernel) (by decide +kernel)
theorem mG149 : Cond.initialized (mY 149).cls ∈ gw := gw_t (i := 10) (by decide +kernel) (by decide +kernel)
theorem mI150 : Cond.instanceMethod (mY 150) ∈ gw := gw_t (i := 1160) (by decide +kernel) (by decide +kernel)
theorem mS150 : Cond.selects (mY 150).cls (mY 150) (mY 150) ∈ gw := gw_p (i := 55) (by decide +kernel) (by decide +kernel)
theorem mG150 : Cond.initialized (mY 150).cls ∈ gw := gw_t (i := 10) (by decide +kernel) (by decide +kernel)
theorem mT151 : Cond.static (mY 151) ∈ gw := gw_t (i := 1163) (by decide +kernel) (by decide +kernel)
theorem mG151 : Cond.initialized (mY 151).cls ∈ gw := gw_t (i := 10) (by decide +kernel) (by decide +kernel)
theorem mI152 : Cond.instanceMethod (mY 152) ∈ gw := gw_t (i := 1167) (by decide +kernel) (by decide +kernel)
theorem mS152 : Cond.selects (mY 152).cls (mY 152) (mY 152) ∈ gw := gw_p (i := 56) (by decide +kernel) (by decide +kernel)
theorem mG152 : Cond.initialized (mY 152).cls ∈ gw := gw_t (i := 10) (by decide +kernel) (by decide +kernel)
theorem mI153 : Cond.instanceMethod (mY 153) ∈ gw := gw_t (i := 1172) (by decide +kernel) (by decide +kernel)
theorem mS153 : Cond.selects (mY 153).cls (mY 153) (mY 153) ∈ gw := gw_p (i := 57) (by decide +kernel) (by decide +kernel)
theorem mG153 : Cond.initialized (mY 153).cls ∈ gw := gw_t (i := 10) (by decide +kernel) (by decide +kernel)
theorem mI154 : Cond.instanceMethod (mY 154) ∈ gw := gw_t (i := 1176) (by decide +kernel) (by decide +kernel)
theorem mS154 : Cond.selects (mY 154).cls (mY 154) (mY 154) ∈ gw := gw_t (i := 1177) (by decide +kernel) (by decide +kernel)
theorem mG154 : Cond.initialized (mY 154).cls ∈ gw := gw_t (i := 10) (by decide +kernel) (by decide +kernel)
theorem mI155 : Cond.instanceMethod (mY 155) ∈ gw := gw_t (i := 1180) (by decide +kernel) (by decide +kernel)
theorem mS155 : Cond.selects (mY 155).cls (mY 155) (mY 155) ∈ gw := gw_t (i := 1181) (by decide +kernel) (by decide +kernel)
theorem mG155 : Cond.initialized (mY 155).cls ∈ gw := gw_t (i := 10) (by decide +kernel) (by decide +kernel)
theorem mI156 : Cond.instanceMethod (mY 156) ∈ gw := gw_t (i := 1184) (by decide +kernel) (by decide +kernel)
theorem mS156 : Cond.selects (mY 156).cls (mY 156) (mY 156) ∈ gw := gw_t (i := 1185) (by decide +kernel) (by decide +kernel)
theorem mG156 : Cond.initialized (mY 156).cls ∈ gw := gw_t (i := 10) (by decide +kernel) (by decide +kernel)
theorem mT157 : Cond.static (mY 157) ∈ gw := gw_t (i := 1188) (by decide +kernel) (by decide +kernel)
theorem mG157 : Cond.initialized (mY 157).cls ∈ gw := gw_t (i := 10) (by decide +kernel) (by decide +kernel)
theorem mI158 : Cond.instanceMethod (mY 158) ∈ gw := gw_t (i := 1191) (by decide +kernel) (by decide +kernel)
theorem mS158 : Cond.selects (mY 158).cls (mY 158) (mY 158) ∈ gw := gw_t (i := 1192) (by decide +kernel) (by decide +kernel)
theorem mG158 : Cond.initialized (mY 158).cls ∈ gw := gw_t (i := 10) (by decide +kernel) (by decide +kernel)
theorem mI159 : Cond.instanceMethod (mY 159) ∈ gw := gw_t (i := 1196) (by decide +kernel) (by decide +kernel)
theorem mS159 : Cond.selects (mY 159).cls (mY 159) (mY 159) ∈ gw := gw_p (i := 58) (by decide +kernel) (by decide +kernel)
theorem mG159 : Cond.initialized (mY 159).cls ∈ gw := gw_t (i := 10) (by decide +kernel) (by decide +kernel)
theorem mI160 : Cond.instanceMethod (mY 160) ∈ gw := gw_t (i := 1200) (by decide +kernel) (by decide +kernel)
theorem mS160 : Cond.selects (mY 160).cls (mY 160) (mY 160) ∈ gw := gw_p (i := 59) (by decide +kernel) (by decide +kernel)
theorem mG160 : Cond.initialized (mY 160).cls ∈ gw := gw_t (i := 10) (by decide +kernel) (by decide +kernel)
theorem mI161 : Cond.instanceMethod (mY 161) ∈ gw := gw_t (i := 1204) (by decide +kernel) (by decide +kernel)
theorem mS161 : Cond.selects (mY 161).cls (mY 161) (mY 161) ∈ gw := gw_p (i := 60) (by decide +kernel) (by decide +kernel)
theorem mG161 : Cond.initialized (mY 161).cls ∈ gw := gw_t (i := 10) (by decide +kernel) (by decide +kernel)
theorem mI162 : Cond.instanceMethod (mY 162) ∈ gw := gw_t (i := 1208) (by decide +kernel) (by decide +kernel)
theorem mS162 : Cond.selects (mY 162).cls (mY 162) (mY 162) ∈ gw := gw_p (i := 61) (by decide +kernel) (by decide +kernel)
theorem mG162 : Cond.initialized (mY 162).cls ∈ gw := gw_t (i := 10) (by decide +kernel) (by decide +kernel)
theorem mI163 : Cond.instanceMethod (mY 163) ∈ gw := gw_t (i := 1212) (by decide +kernel) (by decide +kernel)
theorem mS163 : Cond.selects (mY 163).cls (mY 163) (mY 163) ∈ gw := gw_p (i := 62) (by decide +kernel) (by decide +kernel)
theorem mG163 : Cond.initialized (mY 163).cls ∈ gw := gw_t (i := 10) (by decide +kernel) (by decide +kernel)
theorem mI164 : Cond.instanceMethod (mY 164) ∈ gw := gw_t (i := 1216) (by decide +kernel) (by decide +kernel)
theorem mS164 : Cond.selects (mY 164).cls (mY 164) (mY 164) ∈ gw := gw_p (i := 63) (by decide +kernel) (by decide +kernel)
theorem mG164 : Cond.initialized (mY 164).cls ∈ gw := gw_t (i := 10) (by decide +kernel) (by decide +kernel)
theorem mI165 : Cond.instanceMethod (mY 165) ∈ gw := gw_t (i := 1220) (by decide +kernel) (by decide +kernel)
theorem mS165 : Cond.selects (mY 165).cls (mY 165) (mY 165) ∈ gw := gw_p (i := 64) (by decide +kernel) (by decide +kernel)
theorem mG165 : Cond.initialized (mY 165).cls ∈ gw := gw_t (i := 10) (by decide +kernel) (by decide +kernel)
theorem mI166 : Cond.instanceMethod (mY 166) ∈ gw := gw_t (i := 1224) (by decide +kernel) (by decide +kernel)
theorem mS166 : Cond.selects (mY 166).cls (mY 166) (mY 166) ∈ gw := gw_p (i := 65) (by decide +kernel) (by decide +kernel)
theorem mG166 : Cond.initialized (mY 166).cls ∈ gw := gw_t (i := 10) (by decide +kernel) (by decide +kernel)
theorem mI167 : Cond.instanceMethod (mY 167) ∈ gw := gw_t (i := 1228) (by decide +kernel) (by decide +kernel)
theorem mS167 : Cond.selects (mY 167).cls (mY 167) (mY 167) ∈ gw := gw_p (i := 66) (by decide +kernel) (by decide +kernel)
theorem mG167 : Cond.initialized (mY 167).cls ∈ gw := gw_t (i := 10) (by decide +kernel) (by decide +kernel)
theorem mT168 : Cond.static (mY 168) ∈ gw := gw_t (i := 1232) (by decide +kernel) (by decide +kernel)
theorem mG168 : Cond.initialized (mY 168).cls ∈ gw := gw_t (i := 10) (by decide +kernel) (by decide +kernel)
theorem mI169 : Cond.instanceMethod (mY 169) ∈ gw := gw_t (i := 1236) (by decide +kernel) (by decide +kernel)
theorem mS169 : Cond.selects (mY 169).cls (mY 169) (mY 169) ∈ gw := gw_p (i := 67) (by decide +kernel) (by decide +kernel)
theorem mG169 : Cond.initialized (mY 169).cls ∈ gw := gw_t (i := 10) (by decide +kernel) (by decide +kernel)
theorem mI170 : Cond.instanceMethod (mY 170) ∈ gw := gw_t (i := 1240) (by decide +kernel) (by decide +kernel)
theorem mS170 : Cond.selects (mY 170).cls (mY 170) (mY 170) ∈ gw := gw_p (i := 68) (by decide +kernel) (by decide +kernel)
theorem mG170 : Cond.initialized (mY 170).cls ∈ gw := gw_t (i := 10) (by decide +kernel) (by decide +kernel)
theorem mI171 : Cond.instanceMethod (mY 171) ∈ gw := gw_t (i := 1244) (by decide +kernel) (by decide +kernel)
theorem mS171 : Cond.selects (mY 171).cls (mY 171) (mY 171) ∈ gw := gw_p (i := 69) (by decide +kernel) (by decide +kernel)
theorem mG171 : Cond.initialized (mY 171).cls ∈ gw := gw_t (i := 10) (by decide +kernel) (by decide +kernel)
theorem mI172 : Cond.instanceMethod (mY 172) ∈ gw := gw_t (i := 1248) (by decide +kernel) (by decide +kernel)
theorem mS172 : Cond.selects (mY 172).cls (mY 172) (mY 172) ∈ gw := gw_p (i := 70) (by decide +kernel) (by decide +kernel)
theorem mG172 : Cond.initialized (mY 172).cls ∈ gw := gw_t (i := 10) (by decide +kernel) (by decide +kernel)
theorem mI173 : Cond.instanceMethod (mY 173) ∈ gw := gw_t (i := 1252) (by decide +kernel) (by decide +kernel)
theorem mS173 : Cond.selects (mY 173).cls (mY 173) (mY 173) ∈ gw := gw_p (i := 71) (by decide +kernel) (by decide +kernel)
theorem mG173 : Cond.initialized (mY 173).cls ∈ gw := gw_t (i := 10) (by decide +kernel) (by decide +kernel)
theorem mI174 : Cond.instanceMethod (mY 174) ∈ gw := gw_t (i := 1256) (by decide +kernel) (by decide +kernel)
theorem mS174 : Cond.selects (mY 174).cls (mY 174) (mY 174) ∈ gw := gw_p (i := 72) (by decide +kernel) (by decide +kernel)
theorem mG174 : Cond.initialized (mY 174).cls ∈ gw := gw_t (i := 10) (by decide +kernel) (by decide +kernel)
theorem mI175 : Cond.instanceMethod (mY 175) ∈ gw := gw_t (i := 1260) (by decide +kernel) (by decide +kernel)
theorem mS175 : Cond.selects (mY 175).cls (mY 175) (mY 175) ∈ gw := gw_p (i := 73) (by decide +kernel) (by decide +kernel)
theorem mG175 : Cond.initialized (mY 175).cls ∈ gw := gw_t (i := 10) (by decide +kernel) (by decide +kernel)
theorem mI176 : Cond.instanceMethod (mY 176) ∈ gw := gw_t (i := 1264) (by decide +kernel) (by decide +kernel)
theorem mS176 : Cond.selects (mY 176).cls (mY 176) (mY 176) ∈ gw := gw_p (i := 74) (by decide +kernel) (by decide +kernel)
theorem mG176 : Cond.initialized (mY 176).cls ∈ gw := gw_t (i := 10) (by decide +kernel) (by decide +kernel)
theorem mI177 : Cond.instanceMethod (mY 177) ∈ gw := gw_t (i := 1267) (by decide +kernel) (by decide +kernel)
theorem mS177 : Cond.selects (mY 177).cls (mY 177) (mY 177) ∈ gw := gw_t (i := 1268) (by decide +kernel) (by decide +kernel)
theorem mG177 : Cond.initialized (mY 177).cls ∈ gw := gw_t (i := 10) (by decide +kernel) (by decide +kernel)
theorem mI178 : Cond.instanceMethod (mY 178) ∈ gw := gw_t (i := 1273) (by decide +kernel) (by decide +kernel)
theorem mS178 : Cond.selects (mY 178).cls (mY 178) (mY 178) ∈ gw := gw_t (i := 1274) (by decide +kernel) (by decide +kernel)
theorem mG178 : Cond.initialized (mY 178).cls ∈ gw := gw_t (i := 10) (by decide +kernel) (by decide +kernel)
theorem mI179 : Cond.instanceMethod (mY 179) ∈ gw := gw_t (i := 1277) (by decide +kernel) (by decide +kernel)
theorem mS179 : Cond.selects (mY 179).cls (mY 179) (mY 179) ∈ gw := gw_t (i := 1278) (by decide +kernel) (by decide +kernel)
theorem mG179 : Cond.initialized (mY 179).cls ∈ gw := gw_t (i := 10) (by decide +kernel) (by decide +kernel)
theorem mT180 : Cond.static (mY 180) ∈ gw := gw_t (i := 1281) (by decide +kernel) (by decide +kernel)
theorem mG180 : Cond.initialized (mY 180).cls ∈ gw := gw_t (i := 10) (by decide +kernel) (by decide +kernel)
theorem mI181 : Cond.instanceMethod (mY 181) ∈ gw := gw_t (i := 1284) (by decide +kernel) (by decide +kernel)
theorem mS181 : Cond.selects (mY 181).cls (mY 181) (mY 181) ∈ gw := gw_t (i := 1285) (by decide +kernel) (by decide +kernel)
theorem mG181 : Cond.initialized (mY 181).cls ∈ gw := gw_t (i := 10) (by decide +kernel) (by decide +kernel)
theorem mI182 : Cond.instanceMethod (mY 182) ∈ gw := gw_t (i := 1288) (by decide +kernel) (by decide +kernel)
theorem mS182 : Cond.selects (mY 182).cls (mY 182) (mY 182) ∈ gw := gw_t (i := 1289) (by decide +kernel) (by decide +kernel)
theorem mG182 : Cond.initialized (mY 182).cls ∈ gw := gw_t (i := 10) (by decide +kernel) (by decide +kernel)
theorem mI183 : Cond.instanceMethod (mY 183) ∈ gw := gw_t (i := 1292) (by decide +kernel) (by decide +kernel)
theorem mS183 : Cond.selects (mY 183).cls (mY 183) (mY 183) ∈ gw := gw_t (i := 1293) (by decide +kernel) (by decide +kernel)
theorem mG183 : Cond.initialized (mY 183).cls ∈ gw := gw_t (i := 10) (by decide +kernel) (by decide +kernel)
theorem mI184 : Cond.instanceMethod (mY 184) ∈ gw := gw_t (i := 1296) (by decide +kernel) (by decide +kernel)
theorem mS184 : Cond.selects (mY 184).cls (mY 184) (mY 184) ∈ gw := gw_t (i := 1297) (by decide +kernel) (by decide +kernel)
theorem mG184 : Cond.initialized (mY 184).cls ∈ gw := gw_t (i := 10) (by decide +kernel) (by decide +kernel)
theorem mI185 : Cond.instanceMethod (mY 185) ∈ gw := gw_t (i := 1300) (by decide +kernel) (by decide +kernel)
theorem mS185 : Cond.selects (mY 185).cls (mY 185) (mY 185) ∈ gw := gw_t (i := 1301) (by decide +kernel) (by decide +kernel)
theorem mG185 : Cond.initialized (mY 185).cls ∈ gw := gw_t (i := 10) (by decide +kernel) (by decide +kernel)
theorem mI186 : Cond.instanceMethod (mY 186) ∈ gw := gw_t (i := 1304) (by decide +kernel) (by decide +kernel)
theorem mS186 : Cond.selects (mY 186).cls (mY 186) (mY 186) ∈ gw := gw_t (i := 1305) (by decide +kernel) (by decide +kernel)
theorem mG186 : Cond.initialized (mY 186).cls ∈ gw := gw_t (i := 10) (by decide +kernel) (by decide +kernel)
theorem mI187 : Cond.instanceMethod (mY 187) ∈ gw := gw_t (i := 1309) (by decide +kernel) (by decide +kernel)
theorem mS187 : Cond.selects (mY 187).cls (mY 187) (mY 187) ∈ gw := gw_p (i := 75) (by decide +kernel) (by decide +kernel)
theorem mG187 : Cond.initialized (mY 187).cls ∈ gw := gw_t (i := 10) (by decide +kernel) (by decide +kernel)
theorem mI188 : Cond.instanceMethod (mY 188) ∈ gw := gw_t (i := 1312) (by decide +kernel) (by decide +kernel)
theorem mS188 : Cond.selects (mY 188).cls (mY 188) (mY 188) ∈ gw := gw_t (i := 1313) (by decide +kernel) (by decide +kernel)
theorem mG188 : Cond.initialized (mY 188).cls ∈ gw := gw_t (i := 10) (by decide +kernel) (by decide +kernel)
theorem mI189 : Cond.instanceMethod (mY 189) ∈ gw := gw_t (i := 1316) (by decide +kernel) (by decide +kernel)
theorem mS189 : Cond.selects (mY 189).cls (mY 189) (mY 189) ∈ gw := gw_t (i := 1317) (by decide +kernel) (by decide +kernel)
theorem mG189 : Cond.initialized (mY 189).cls ∈ gw := gw_t (i := 10) (by decide +kernel) (by decide +kernel)
theorem mI190 : Cond.instanceMethod (mY 190) ∈ gw := gw_t (i := 1321) (by decide +kernel) (by decide +kernel)
theorem mS190 : Cond.selects (mY 190).cls (mY 190) (mY 190) ∈ gw := gw_p (i := 76) (by decide +kernel) (by decide +kernel)
theorem mG190 : Cond.initialized (mY 190).cls ∈ gw := gw_t (i := 10) (by decide +kernel) (by decide +kernel)
theorem mI191 : Cond.instanceMethod (mY 191) ∈ gw := gw_t (i := 1325) (by decide +kernel) (by decide +kernel)
theorem mS191 : Cond.selects (mY 191).cls (mY 191) (mY 191) ∈ gw := gw_p (i := 77) (by decide +kernel) (by decide +kernel)
theorem mG191 : Cond.initialized (mY 191).cls ∈ gw := gw_t (i := 10) (by decide +kernel) (by decide +kernel)
theorem mI192 : Cond.instanceMethod (mY 192) ∈ gw := gw_t (i := 1328) (by decide +kernel) (by decide +kernel)
theorem mS192 : Cond.selects (mY 192).cls (mY 192) (mY 192) ∈ gw := gw_t (i := 1329) (by decide +kernel) (by decide +kernel)
theorem mG192 : Cond.initialized (mY 192).cls ∈ gw := gw_t (i := 10) (by decide +kernel) (by decide +kernel)
theorem mI193 : Cond.instanceMethod (mY 193) ∈ gw := gw_t (i := 1332) (by decide +kernel) (by decide +kernel)
theorem mS193 : Cond.selects (mY 193).cls (mY 193) (mY 193) ∈ gw := gw_t (i := 1333) (by decide +kernel) (by decide +kernel)
theorem mG193 : Cond.initialized (mY 193).cls ∈ gw := gw_t (i := 10) (by decide +kernel) (by decide +kernel)
theorem mI194 : Cond.instanceMethod (mY 194) ∈ gw := gw_t (i := 1336) (by decide +kernel) (by decide +kernel)
theorem mS194 : Cond.selects (mY 194).cls (mY 194) (mY 194) ∈ gw := gw_t (i := 1337) (by decide +kernel) (by decide +kernel)
theorem mG194 : Cond.initialized (mY 194).cls ∈ gw := gw_t (i := 10) (by decide +kernel) (by decide +kernel)
theorem mI195 : Cond.instanceMethod (mY 195) ∈ gw := gw_t (i := 1340) (by decide +kernel) (by decide +kernel)
theorem mS195 : Cond.selects (mY 195).cls (mY 195) (mY 195) ∈ gw := gw_t (i := 1341) (by decide +kernel) (by decide +kernel)
theorem mG195 : Cond.initialized (mY 195).cls ∈ gw := gw_t (i := 10) (by decide +kernel) (by decide +kernel)
theorem mI196 : Cond.instanceMethod (mY 196) ∈ gw := gw_t (i := 1344) (by decide +kernel) (by decide +kernel)
theorem mS196 : Cond.selects (mY 196).cls (mY 196) (mY 196) ∈ gw := gw_t (i := 1345) (by decide +kernel) (by decide +kernel)
theorem mG196 : Cond.initialized (mY 196).cls ∈ gw := gw_t (i := 10) (by decide +kernel) (by decide +kernel)
theorem ml10_9 : Cond.methodLink "MaskedThrowsLaw" 9 (mY 0) ∈ gw := gw_t (i := 18) (by decide +kernel) (by decide +kernel)
theorem ml8_3 : Cond.methodLink "MaskedThrows" 3 (mY 1) ∈ gw := gw_t (i := 21) (by decide +kernel) (by decide +kernel)
theorem ml3_3 : Cond.methodLink "MaskedThrows$Parser" 3 (mY 1) ∈ gw := gw_t (i := 29) (by decide +kernel) (by decide +kernel)
theorem ml6_3 : Cond.methodLink "MaskedThrows$Tokens" 3 (mY 1) ∈ gw := gw_t (i := 35) (by decide +kernel) (by decide +kernel)
theorem ml4_3 : Cond.methodLink "MaskedThrows$Program" 3 (mY 1) ∈ gw := gw_t (i := 69) (by decide +kernel) (by decide +kernel)
theorem ml8_33 : Cond.methodLink "MaskedThrows" 33 (mY 5) ∈ gw := gw_t (i := 137) (by decide +kernel) (by decide +kernel)
theorem ml7_3 : Cond.methodLink "MaskedThrows$World" 3 (mY 1) ∈ gw := gw_t (i := 140) (by decide +kernel) (by decide +kernel)
theorem ml7_21 : Cond.methodLink "MaskedThrows$World" 21 (mY 6) ∈ gw := gw_t (i := 143) (by decide +kernel) (by decide +kernel)
theorem ml1_1 : Cond.methodLink "MaskedThrows$Chronicle" 1 (mY 1) ∈ gw := gw_t (i := 146) (by decide +kernel) (by decide +kernel)
theorem ml7_29 : Cond.methodLink "MaskedThrows$World" 29 (mY 7) ∈ gw := gw_t (i := 181) (by decide +kernel) (by decide +kernel)
theorem ml2_3 : Cond.methodLink "MaskedThrows$Fiber" 3 (mY 1) ∈ gw := gw_t (i := 184) (by decide +kernel) (by decide +kernel)
theorem ml5_3 : Cond.methodLink "MaskedThrows$Row" 3 (mY 1) ∈ gw := gw_t (i := 190) (by decide +kernel) (by decide +kernel)
theorem ml0_3 : Cond.methodLink "MaskedThrows$Body" 3 (mY 1) ∈ gw := gw_t (i := 218) (by decide +kernel) (by decide +kernel)
theorem ml10_13 : Cond.methodLink "MaskedThrowsLaw" 13 (mY 10) ∈ gw := gw_t (i := 362) (by decide +kernel) (by decide +kernel)
theorem ml8_41 : Cond.methodLink "MaskedThrows" 41 (mY 11) ∈ gw := gw_t (i := 366) (by decide +kernel) (by decide +kernel)
theorem ml10_18 : Cond.methodLink "MaskedThrowsLaw" 18 (mY 12) ∈ gw := gw_t (i := 370) (by decide +kernel) (by decide +kernel)
theorem ml10_23 : Cond.methodLink "MaskedThrowsLaw" 23 (mY 13) ∈ gw := gw_t (i := 374) (by decide +kernel) (by decide +kernel)
theorem ml8_48 : Cond.methodLink "MaskedThrows" 48 (mY 14) ∈ gw := gw_t (i := 378) (by decide +kernel) (by decide +kernel)
theorem ml3_18 : Cond.methodLink "MaskedThrows$Parser" 18 (mY 15) ∈ gw := gw_t (i := 382) (by decide +kernel) (by decide +kernel)
theorem ml6_25 : Cond.methodLink "MaskedThrows$Tokens" 25 (mY 16) ∈ gw := gw_t (i := 386) (by decide +kernel) (by decide +kernel)
theorem ml6_29 : Cond.methodLink "MaskedThrows$Tokens" 29 (mY 17) ∈ gw := gw_t (i := 389) (by decide +kernel) (by decide +kernel)
theorem ml6_46 : Cond.methodLink "MaskedThrows$Tokens" 46 (mY 18) ∈ gw := gw_t (i := 393) (by decide +kernel) (by decide +kernel)
theorem ml6_50 : Cond.methodLink "MaskedThrows$Tokens" 50 (mY 19) ∈ gw := gw_t (i := 396) (by decide +kernel) (by decide +kernel)
theorem ml6_56 : Cond.methodLink "MaskedThrows$Tokens" 56 (mY 20) ∈ gw := gw_t (i := 400) (by decide +kernel) (by decide +kernel)
theorem mlS_492 : Cond.methodLink "java/lang/String" 492 (mY 21) ∈ gw := gw_t (i := 404) (by decide +kernel) (by decide +kernel)
theorem mlS_495 : Cond.methodLink "java/lang/String" 495 (mY 22) ∈ gw := gw_t (i := 410) (by decide +kernel) (by decide +kernel)
theorem mlL_9 : Cond.methodLink "java/lang/StringLatin1" 9 (mY 23) ∈ gw := gw_t (i := 413) (by decide +kernel) (by decide +kernel)
theorem mlS_1059 : Cond.methodLink "java/lang/String" 1059 (mY 24) ∈ gw := gw_t (i := 418) (by decide +kernel) (by decide +kernel)
theorem mlS_498 : Cond.methodLink "java/lang/String" 498 (mY 25) ∈ gw := gw_t (i := 421) (by decide +kernel) (by decide +kernel)
theorem mlU_67 : Cond.methodLink "java/lang/StringUTF16" 67 (mY 26) ∈ gw := gw_t (i := 424) (by decide +kernel) (by decide +kernel)
theorem mlU_48 : Cond.methodLink "java/lang/StringUTF16" 48 (mY 27) ∈ gw := gw_t (i := 427) (by decide +kernel) (by decide +kernel)
theorem mlU_414 : Cond.methodLink "java/lang/StringUTF16" 414 (mY 23) ∈ gw := gw_t (i := 430) (by decide +kernel) (by decide +kernel)
theorem mlU_71 : Cond.methodLink "java/lang/StringUTF16" 71 (mY 28) ∈ gw := gw_t (i := 431) (by decide +kernel) (by decide +kernel)
theorem ml6_42 : Cond.methodLink "MaskedThrows$Tokens" 42 (mY 29) ∈ gw := gw_t (i := 440) (by decide +kernel) (by decide +kernel)
theorem ml6_33 : Cond.methodLink "MaskedThrows$Tokens" 33 (mY 30) ∈ gw := gw_t (i := 444) (by decide +kernel) (by decide +kernel)
theorem ml6_36 : Cond.methodLink "MaskedThrows$Tokens" 36 (mY 31) ∈ gw := gw_t (i := 447) (by decide +kernel) (by decide +kernel)
theorem ml6_39 : Cond.methodLink "MaskedThrows$Tokens" 39 (mY 32) ∈ gw := gw_t (i := 451) (by decide +kernel) (by decide +kernel)
theorem ml6_64 : Cond.methodLink "MaskedThrows$Tokens" 64 (mY 33) ∈ gw := gw_t (i := 455) (by decide +kernel) (by decide +kernel)
theorem mlS_335 : Cond.methodLink "java/lang/String" 335 (mY 34) ∈ gw := gw_t (i := 459) (by decide +kernel) (by decide +kernel)
theorem ml3_22 : Cond.methodLink "MaskedThrows$Parser" 22 (mY 35) ∈ gw := gw_t (i := 463) (by decide +kernel) (by decide +kernel)
theorem ml3_35 : Cond.methodLink "MaskedThrows$Parser" 35 (mY 36) ∈ gw := gw_t (i := 467) (by decide +kernel) (by decide +kernel)
theorem ml3_52 : Cond.methodLink "MaskedThrows$Parser" 52 (mY 37) ∈ gw := gw_t (i := 471) (by decide +kernel) (by decide +kernel)
theorem ml3_59 : Cond.methodLink "MaskedThrows$Parser" 59 (mY 38) ∈ gw := gw_t (i := 475) (by decide +kernel) (by decide +kernel)
theorem ml3_62 : Cond.methodLink "MaskedThrows$Parser" 62 (mY 39) ∈ gw := gw_t (i := 478) (by decide +kernel) (by decide +kernel)
theorem ml3_66 : Cond.methodLink "MaskedThrows$Parser" 66 (mY 40) ∈ gw := gw_t (i := 482) (by decide +kernel) (by decide +kernel)
theorem ml3_69 : Cond.methodLink "MaskedThrows$Parser" 69 (mY 41) ∈ gw := gw_t (i := 486) (by decide +kernel) (by decide +kernel)
theorem ml3_72 : Cond.methodLink "MaskedThrows$Parser" 72 (mY 42) ∈ gw := gw_t (i := 490) (by decide +kernel) (by decide +kernel)
theorem ml3_113 : Cond.methodLink "MaskedThrows$Parser" 113 (mY 43) ∈ gw := gw_t (i := 494) (by decide +kernel) (by decide +kernel)
theorem ml3_119 : Cond.methodLink "MaskedThrows$Parser" 119 (mY 44) ∈ gw := gw_t (i := 498) (by decide +kernel) (by decide +kernel)
theorem ml3_125 : Cond.methodLink "MaskedThrows$Parser" 125 (mY 45) ∈ gw := gw_t (i := 502) (by decide +kernel) (by decide +kernel)
theorem ml3_128 : Cond.methodLink "MaskedThrows$Parser" 128 (mY 46) ∈ gw := gw_t (i := 506) (by decide +kernel) (by decide +kernel)
theorem ml3_122 : Cond.methodLink "MaskedThrows$Parser" 122 (mY 47) ∈ gw := gw_t (i := 510) (by decide +kernel) (by decide +kernel)
theorem ml3_75 : Cond.methodLink "MaskedThrows$Parser" 75 (mY 48) ∈ gw := gw_t (i := 514) (by decide +kernel) (by decide +kernel)
theorem ml3_78 : Cond.methodLink "MaskedThrows$Parser" 78 (mY 49) ∈ gw := gw_t (i := 518) (by decide +kernel) (by decide +kernel)
theorem ml3_101 : Cond.methodLink "MaskedThrows$Parser" 101 (mY 50) ∈ gw := gw_t (i := 522) (by decide +kernel) (by decide +kernel)
theorem ml3_81 : Cond.methodLink "MaskedThrows$Parser" 81 (mY 51) ∈ gw := gw_t (i := 525) (by decide +kernel) (by decide +kernel)
theorem ml3_85 : Cond.methodLink "MaskedThrows$Parser" 85 (mY 52) ∈ gw := gw_t (i := 529) (by decide +kernel) (by decide +kernel)
theorem ml10_28 : Cond.methodLink "MaskedThrowsLaw" 28 (mY 53) ∈ gw := gw_t (i := 535) (by decide +kernel) (by decide +kernel)
theorem ml10_32 : Cond.methodLink "MaskedThrowsLaw" 32 (mY 54) ∈ gw := gw_t (i := 539) (by decide +kernel) (by decide +kernel)
theorem ml8_52 : Cond.methodLink "MaskedThrows" 52 (mY 55) ∈ gw := gw_t (i := 543) (by decide +kernel) (by decide +kernel)
theorem ml10_37 : Cond.methodLink "MaskedThrowsLaw" 37 (mY 56) ∈ gw := gw_t (i := 547) (by decide +kernel) (by decide +kernel)
theorem ml8_65 : Cond.methodLink "MaskedThrows" 65 (mY 57) ∈ gw := gw_t (i := 551) (by decide +kernel) (by decide +kernel)
theorem ml8_68 : Cond.methodLink "MaskedThrows" 68 (mY 58) ∈ gw := gw_t (i := 554) (by decide +kernel) (by decide +kernel)
theorem ml8_75 : Cond.methodLink "MaskedThrows" 75 (mY 59) ∈ gw := gw_t (i := 558) (by decide +kernel) (by decide +kernel)
theorem ml2_69 : Cond.methodLink "MaskedThrows$Fiber" 69 (mY 60) ∈ gw := gw_t (i := 562) (by decide +kernel) (by decide +kernel)
theorem ml2_54 : Cond.methodLink "MaskedThrows$Fiber" 54 (mY 61) ∈ gw := gw_t (i := 566) (by decide +kernel) (by decide +kernel)
theorem ml2_78 : Cond.methodLink "MaskedThrows$Fiber" 78 (mY 62) ∈ gw := gw_t (i := 570) (by decide +kernel) (by decide +kernel)
theorem ml0_18 : Cond.methodLink "MaskedThrows$Body" 18 (mY 63) ∈ gw := gw_t (i := 574) (by decide +kernel) (by decide +kernel)
theorem ml10_41 : Cond.methodLink "MaskedThrowsLaw" 41 (mY 64) ∈ gw := gw_t (i := 578) (by decide +kernel) (by decide +kernel)
theorem ml8_81 : Cond.methodLink "MaskedThrows" 81 (mY 65) ∈ gw := gw_t (i := 582) (by decide +kernel) (by decide +kernel)
theorem ml7_54 : Cond.methodLink "MaskedThrows$World" 54 (mY 66) ∈ gw := gw_t (i := 586) (by decide +kernel) (by decide +kernel)
theorem ml2_149 : Cond.methodLink "MaskedThrows$Fiber" 149 (mY 67) ∈ gw := gw_t (i := 590) (by decide +kernel) (by decide +kernel)
theorem ml7_57 : Cond.methodLink "MaskedThrows$World" 57 (mY 68) ∈ gw := gw_t (i := 594) (by decide +kernel) (by decide +kernel)
theorem ml7_68 : Cond.methodLink "MaskedThrows$World" 68 (mY 69) ∈ gw := gw_t (i := 598) (by decide +kernel) (by decide +kernel)
theorem ml2_101 : Cond.methodLink "MaskedThrows$Fiber" 101 (mY 70) ∈ gw := gw_t (i := 602) (by decide +kernel) (by decide +kernel)
theorem ml2_155 : Cond.methodLink "MaskedThrows$Fiber" 155 (mY 71) ∈ gw := gw_t (i := 606) (by decide +kernel) (by decide +kernel)
theorem ml2_105 : Cond.methodLink "MaskedThrows$Fiber" 105 (mY 72) ∈ gw := gw_t (i := 610) (by decide +kernel) (by decide +kernel)
theorem ml2_127 : Cond.methodLink "MaskedThrows$Fiber" 127 (mY 63) ∈ gw := gw_t (i := 614) (by decide +kernel) (by decide +kernel)
theorem ml2_82 : Cond.methodLink "MaskedThrows$Fiber" 82 (mY 73) ∈ gw := gw_t (i := 615) (by decide +kernel) (by decide +kernel)
theorem ml2_159 : Cond.methodLink "MaskedThrows$Fiber" 159 (mY 74) ∈ gw := gw_t (i := 619) (by decide +kernel) (by decide +kernel)
theorem ml2_174 : Cond.methodLink "MaskedThrows$Fiber" 174 (mY 50) ∈ gw := gw_t (i := 623) (by decide +kernel) (by decide +kernel)
theorem ml2_171 : Cond.methodLink "MaskedThrows$Fiber" 171 (mY 75) ∈ gw := gw_t (i := 624) (by decide +kernel) (by decide +kernel)
theorem ml2_131 : Cond.methodLink "MaskedThrows$Fiber" 131 (mY 76) ∈ gw := gw_t (i := 628) (by decide +kernel) (by decide +kernel)
theorem ml2_138 : Cond.methodLink "MaskedThrows$Fiber" 138 (mY 77) ∈ gw := gw_t (i := 632) (by decide +kernel) (by decide +kernel)
theorem ml2_142 : Cond.methodLink "MaskedThrows$Fiber" 142 (mY 78) ∈ gw := gw_t (i := 636) (by decide +kernel) (by decide +kernel)
theorem ml2_109 : Cond.methodLink "MaskedThrows$Fiber" 109 (mY 79) ∈ gw := gw_t (i := 640) (by decide +kernel) (by decide +kernel)
theorem ml7_82 : Cond.methodLink "MaskedThrows$World" 82 (mY 80) ∈ gw := gw_t (i := 644) (by decide +kernel) (by decide +kernel)
theorem ml7_95 : Cond.methodLink "MaskedThrows$World" 95 (mY 81) ∈ gw := gw_t (i := 648) (by decide +kernel) (by decide +kernel)
theorem ml7_126 : Cond.methodLink "MaskedThrows$World" 126 (mY 82) ∈ gw := gw_t (i := 652) (by decide +kernel) (by decide +kernel)
theorem ml7_113 : Cond.methodLink "MaskedThrows$World" 113 (mY 78) ∈ gw := gw_t (i := 656) (by decide +kernel) (by decide +kernel)
theorem ml7_119 : Cond.methodLink "MaskedThrows$World" 119 (mY 73) ∈ gw := gw_t (i := 657) (by decide +kernel) (by decide +kernel)
theorem ml7_85 : Cond.methodLink "MaskedThrows$World" 85 (mY 70) ∈ gw := gw_t (i := 658) (by decide +kernel) (by decide +kernel)
theorem ml7_88 : Cond.methodLink "MaskedThrows$World" 88 (mY 83) ∈ gw := gw_t (i := 659) (by decide +kernel) (by decide +kernel)
theorem ml7_91 : Cond.methodLink "MaskedThrows$World" 91 (mY 84) ∈ gw := gw_t (i := 663) (by decide +kernel) (by decide +kernel)
theorem ml7_143 : Cond.methodLink "MaskedThrows$World" 143 (mY 85) ∈ gw := gw_t (i := 667) (by decide +kernel) (by decide +kernel)
theorem ml4_56 : Cond.methodLink "MaskedThrows$Program" 56 (mY 86) ∈ gw := gw_t (i := 671) (by decide +kernel) (by decide +kernel)
theorem ml7_147 : Cond.methodLink "MaskedThrows$World" 147 (mY 79) ∈ gw := gw_t (i := 674) (by decide +kernel) (by decide +kernel)
theorem ml7_150 : Cond.methodLink "MaskedThrows$World" 150 (mY 87) ∈ gw := gw_t (i := 675) (by decide +kernel) (by decide +kernel)
theorem ml7_154 : Cond.methodLink "MaskedThrows$World" 154 (mY 88) ∈ gw := gw_t (i := 679) (by decide +kernel) (by decide +kernel)
theorem ml7_171 : Cond.methodLink "MaskedThrows$World" 171 (mY 89) ∈ gw := gw_t (i := 683) (by decide +kernel) (by decide +kernel)
theorem ml7_157 : Cond.methodLink "MaskedThrows$World" 157 (mY 90) ∈ gw := gw_t (i := 687) (by decide +kernel) (by decide +kernel)
theorem ml7_160 : Cond.methodLink "MaskedThrows$World" 160 (mY 91) ∈ gw := gw_t (i := 691) (by decide +kernel) (by decide +kernel)
theorem ml7_163 : Cond.methodLink "MaskedThrows$World" 163 (mY 92) ∈ gw := gw_t (i := 694) (by decide +kernel) (by decide +kernel)
theorem ml7_178 : Cond.methodLink "MaskedThrows$World" 178 (mY 67) ∈ gw := gw_t (i := 698) (by decide +kernel) (by decide +kernel)
theorem ml7_166 : Cond.methodLink "MaskedThrows$World" 166 (mY 50) ∈ gw := gw_t (i := 699) (by decide +kernel) (by decide +kernel)
theorem ml7_61 : Cond.methodLink "MaskedThrows$World" 61 (mY 93) ∈ gw := gw_t (i := 700) (by decide +kernel) (by decide +kernel)
theorem ml2_179 : Cond.methodLink "MaskedThrows$Fiber" 179 (mY 94) ∈ gw := gw_t (i := 704) (by decide +kernel) (by decide +kernel)
theorem ml2_189 : Cond.methodLink "MaskedThrows$Fiber" 189 (mY 87) ∈ gw := gw_t (i := 708) (by decide +kernel) (by decide +kernel)
theorem ml2_183 : Cond.methodLink "MaskedThrows$Fiber" 183 (mY 95) ∈ gw := gw_t (i := 709) (by decide +kernel) (by decide +kernel)
theorem ml10_47 : Cond.methodLink "MaskedThrowsLaw" 47 (mY 96) ∈ gw := gw_t (i := 713) (by decide +kernel) (by decide +kernel)
theorem ml10_52 : Cond.methodLink "MaskedThrowsLaw" 52 (mY 97) ∈ gw := gw_t (i := 719) (by decide +kernel) (by decide +kernel)
theorem ml8_93 : Cond.methodLink "MaskedThrows" 93 (mY 98) ∈ gw := gw_t (i := 723) (by decide +kernel) (by decide +kernel)
theorem ml8_99 : Cond.methodLink "MaskedThrows" 99 (mY 67) ∈ gw := gw_t (i := 727) (by decide +kernel) (by decide +kernel)
theorem ml10_57 : Cond.methodLink "MaskedThrowsLaw" 57 (mY 99) ∈ gw := gw_t (i := 728) (by decide +kernel) (by decide +kernel)
theorem ml8_106 : Cond.methodLink "MaskedThrows" 106 (mY 100) ∈ gw := gw_t (i := 732) (by decide +kernel) (by decide +kernel)
theorem ml10_61 : Cond.methodLink "MaskedThrowsLaw" 61 (mY 101) ∈ gw := gw_t (i := 735) (by decide +kernel) (by decide +kernel)
theorem ml10_65 : Cond.methodLink "MaskedThrowsLaw" 65 (mY 102) ∈ gw := gw_t (i := 739) (by decide +kernel) (by decide +kernel)
theorem ml10_70 : Cond.methodLink "MaskedThrowsLaw" 70 (mY 103) ∈ gw := gw_t (i := 743) (by decide +kernel) (by decide +kernel)
theorem ml8_132 : Cond.methodLink "MaskedThrows" 132 (mY 104) ∈ gw := gw_t (i := 747) (by decide +kernel) (by decide +kernel)
theorem ml10_74 : Cond.methodLink "MaskedThrowsLaw" 74 (mY 105) ∈ gw := gw_t (i := 751) (by decide +kernel) (by decide +kernel)
theorem ml10_78 : Cond.methodLink "MaskedThrowsLaw" 78 (mY 106) ∈ gw := gw_t (i := 755) (by decide +kernel) (by decide +kernel)
theorem ml10_83 : Cond.methodLink "MaskedThrowsLaw" 83 (mY 107) ∈ gw := gw_t (i := 759) (by decide +kernel) (by decide +kernel)
theorem ml8_143 : Cond.methodLink "MaskedThrows" 143 (mY 108) ∈ gw := gw_t (i := 763) (by decide +kernel) (by decide +kernel)
theorem ml10_88 : Cond.methodLink "MaskedThrowsLaw" 88 (mY 109) ∈ gw := gw_t (i := 767) (by decide +kernel) (by decide +kernel)
theorem ml10_92 : Cond.methodLink "MaskedThrowsLaw" 92 (mY 110) ∈ gw := gw_t (i := 771) (by decide +kernel) (by decide +kernel)
theorem ml8_156 : Cond.methodLink "MaskedThrows" 156 (mY 111) ∈ gw := gw_t (i := 775) (by decide +kernel) (by decide +kernel)
theorem ml7_184 : Cond.methodLink "MaskedThrows$World" 184 (mY 112) ∈ gw := gw_t (i := 779) (by decide +kernel) (by decide +kernel)
theorem ml7_188 : Cond.methodLink "MaskedThrows$World" 188 (mY 113) ∈ gw := gw_t (i := 783) (by decide +kernel) (by decide +kernel)
theorem ml2_192 : Cond.methodLink "MaskedThrows$Fiber" 192 (mY 114) ∈ gw := gw_t (i := 787) (by decide +kernel) (by decide +kernel)
theorem ml2_196 : Cond.methodLink "MaskedThrows$Fiber" 196 (mY 115) ∈ gw := gw_t (i := 791) (by decide +kernel) (by decide +kernel)
theorem ml10_96 : Cond.methodLink "MaskedThrowsLaw" 96 (mY 116) ∈ gw := gw_t (i := 795) (by decide +kernel) (by decide +kernel)
theorem ml10_100 : Cond.methodLink "MaskedThrowsLaw" 100 (mY 117) ∈ gw := gw_t (i := 799) (by decide +kernel) (by decide +kernel)
theorem ml10_104 : Cond.methodLink "MaskedThrowsLaw" 104 (mY 118) ∈ gw := gw_t (i := 803) (by decide +kernel) (by decide +kernel)
theorem ml8_169 : Cond.methodLink "MaskedThrows" 169 (mY 119) ∈ gw := gw_t (i := 807) (by decide +kernel) (by decide +kernel)
theorem ml10_108 : Cond.methodLink "MaskedThrowsLaw" 108 (mY 120) ∈ gw := gw_t (i := 811) (by decide +kernel) (by decide +kernel)
theorem ml10_112 : Cond.methodLink "MaskedThrowsLaw" 112 (mY 121) ∈ gw := gw_t (i := 815) (by decide +kernel) (by decide +kernel)
theorem ml8_182 : Cond.methodLink "MaskedThrows" 182 (mY 122) ∈ gw := gw_t (i := 819) (by decide +kernel) (by decide +kernel)
theorem ml7_51 : Cond.methodLink "MaskedThrows$World" 51 (mY 60) ∈ gw := gw_t (i := 823) (by decide +kernel) (by decide +kernel)
theorem ml10_12 : Cond.methodLink "MaskedThrowsLaw" 12 (mY 123) ∈ gw := gw_t (i := 826) (by decide +kernel) (by decide +kernel)
theorem ml9_1 : Cond.methodLink "MaskedThrowsModel" 1 (mY 1) ∈ gw := gw_t (i := 829) (by decide +kernel) (by decide +kernel)
theorem ml10_17 : Cond.methodLink "MaskedThrowsLaw" 17 (mY 124) ∈ gw := gw_t (i := 1038) (by decide +kernel) (by decide +kernel)
theorem ml10_22 : Cond.methodLink "MaskedThrowsLaw" 22 (mY 125) ∈ gw := gw_t (i := 1042) (by decide +kernel) (by decide +kernel)
theorem ml10_27 : Cond.methodLink "MaskedThrowsLaw" 27 (mY 126) ∈ gw := gw_t (i := 1046) (by decide +kernel) (by decide +kernel)
theorem ml9_347 : Cond.methodLink "MaskedThrowsModel" 347 (mY 127) ∈ gw := gw_t (i := 1050) (by decide +kernel) (by decide +kernel)
theorem ml9_262 : Cond.methodLink "MaskedThrowsModel" 262 (mY 128) ∈ gw := gw_t (i := 1054) (by decide +kernel) (by decide +kernel)
theorem ml9_214 : Cond.methodLink "MaskedThrowsModel" 214 (mY 129) ∈ gw := gw_t (i := 1058) (by decide +kernel) (by decide +kernel)
theorem ml9_224 : Cond.methodLink "MaskedThrowsModel" 224 (mY 130) ∈ gw := gw_t (i := 1062) (by decide +kernel) (by decide +kernel)
theorem ml9_231 : Cond.methodLink "MaskedThrowsModel" 231 (mY 131) ∈ gw := gw_t (i := 1065) (by decide +kernel) (by decide +kernel)
theorem ml9_235 : Cond.methodLink "MaskedThrowsModel" 235 (mY 132) ∈ gw := gw_t (i := 1087) (by decide +kernel) (by decide +kernel)
theorem ml9_249 : Cond.methodLink "MaskedThrowsModel" 249 (mY 133) ∈ gw := gw_t (i := 1092) (by decide +kernel) (by decide +kernel)
theorem ml9_256 : Cond.methodLink "MaskedThrowsModel" 256 (mY 134) ∈ gw := gw_t (i := 1095) (by decide +kernel) (by decide +kernel)
theorem ml9_259 : Cond.methodLink "MaskedThrowsModel" 259 (mY 135) ∈ gw := gw_t (i := 1099) (by decide +kernel) (by decide +kernel)
theorem ml9_301 : Cond.methodLink "MaskedThrowsModel" 301 (mY 136) ∈ gw := gw_t (i := 1103) (by decide +kernel) (by decide +kernel)
theorem ml9_307 : Cond.methodLink "MaskedThrowsModel" 307 (mY 137) ∈ gw := gw_t (i := 1107) (by decide +kernel) (by decide +kernel)
theorem ml9_310 : Cond.methodLink "MaskedThrowsModel" 310 (mY 138) ∈ gw := gw_t (i := 1111) (by decide +kernel) (by decide +kernel)
theorem ml9_314 : Cond.methodLink "MaskedThrowsModel" 314 (mY 139) ∈ gw := gw_t (i := 1115) (by decide +kernel) (by decide +kernel)
theorem ml9_295 : Cond.methodLink "MaskedThrowsModel" 295 (mY 140) ∈ gw := gw_t (i := 1119) (by decide +kernel) (by decide +kernel)
theorem ml9_304 : Cond.methodLink "MaskedThrowsModel" 304 (mY 141) ∈ gw := gw_t (i := 1123) (by decide +kernel) (by decide +kernel)
theorem ml9_317 : Cond.methodLink "MaskedThrowsModel" 317 (mY 142) ∈ gw := gw_t (i := 1127) (by decide +kernel) (by decide +kernel)
theorem ml9_320 : Cond.methodLink "MaskedThrowsModel" 320 (mY 143) ∈ gw := gw_t (i := 1130) (by decide +kernel) (by decide +kernel)
theorem ml9_324 : Cond.methodLink "MaskedThrowsModel" 324 (mY 144) ∈ gw := gw_t (i := 1134) (by decide +kernel) (by decide +kernel)
theorem ml9_327 : Cond.methodLink "MaskedThrowsModel" 327 (mY 145) ∈ gw := gw_t (i := 1138) (by decide +kernel) (by decide +kernel)
theorem ml9_330 : Cond.methodLink "MaskedThrowsModel" 330 (mY 146) ∈ gw := gw_t (i := 1142) (by decide +kernel) (by decide +kernel)
theorem ml9_284 : Cond.methodLink "MaskedThrowsModel" 284 (mY 147) ∈ gw := gw_t (i := 1146) (by decide +kernel) (by decide +kernel)
theorem ml9_274 : Cond.methodLink "MaskedThrowsModel" 274 (mY 148) ∈ gw := gw_t (i := 1150) (by decide +kernel) (by decide +kernel)
theorem ml9_292 : Cond.methodLink "MaskedThrowsModel" 292 (mY 149) ∈ gw := gw_t (i := 1154) (by decide +kernel) (by decide +kernel)
theorem ml9_288 : Cond.methodLink "MaskedThrowsModel" 288 (mY 150) ∈ gw := gw_t (i := 1158) (by decide +kernel) (by decide +kernel)
theorem ml9_271 : Cond.methodLink "MaskedThrowsModel" 271 (mY 151) ∈ gw := gw_t (i := 1162) (by decide +kernel) (by decide +kernel)
theorem ml9_333 : Cond.methodLink "MaskedThrowsModel" 333 (mY 152) ∈ gw := gw_t (i := 1165) (by decide +kernel) (by decide +kernel)
theorem ml9_338 : Cond.methodLink "MaskedThrowsModel" 338 (mY 153) ∈ gw := gw_t (i := 1170) (by decide +kernel) (by decide +kernel)
theorem ml10_31 : Cond.methodLink "MaskedThrowsLaw" 31 (mY 154) ∈ gw := gw_t (i := 1175) (by decide +kernel) (by decide +kernel)
theorem ml10_36 : Cond.methodLink "MaskedThrowsLaw" 36 (mY 155) ∈ gw := gw_t (i := 1179) (by decide +kernel) (by decide +kernel)
theorem ml10_40 : Cond.methodLink "MaskedThrowsLaw" 40 (mY 156) ∈ gw := gw_t (i := 1183) (by decide +kernel) (by decide +kernel)
theorem ml9_419 : Cond.methodLink "MaskedThrowsModel" 419 (mY 157) ∈ gw := gw_t (i := 1187) (by decide +kernel) (by decide +kernel)
theorem ml10_44 : Cond.methodLink "MaskedThrowsLaw" 44 (mY 158) ∈ gw := gw_t (i := 1190) (by decide +kernel) (by decide +kernel)
theorem ml9_422 : Cond.methodLink "MaskedThrowsModel" 422 (mY 159) ∈ gw := gw_t (i := 1194) (by decide +kernel) (by decide +kernel)
theorem ml9_413 : Cond.methodLink "MaskedThrowsModel" 413 (mY 160) ∈ gw := gw_t (i := 1198) (by decide +kernel) (by decide +kernel)
theorem ml9_386 : Cond.methodLink "MaskedThrowsModel" 386 (mY 161) ∈ gw := gw_t (i := 1202) (by decide +kernel) (by decide +kernel)
theorem ml9_416 : Cond.methodLink "MaskedThrowsModel" 416 (mY 162) ∈ gw := gw_t (i := 1206) (by decide +kernel) (by decide +kernel)
theorem ml9_393 : Cond.methodLink "MaskedThrowsModel" 393 (mY 163) ∈ gw := gw_t (i := 1210) (by decide +kernel) (by decide +kernel)
theorem ml9_361 : Cond.methodLink "MaskedThrowsModel" 361 (mY 164) ∈ gw := gw_t (i := 1214) (by decide +kernel) (by decide +kernel)
theorem ml9_356 : Cond.methodLink "MaskedThrowsModel" 356 (mY 165) ∈ gw := gw_t (i := 1218) (by decide +kernel) (by decide +kernel)
theorem ml9_364 : Cond.methodLink "MaskedThrowsModel" 364 (mY 166) ∈ gw := gw_t (i := 1222) (by decide +kernel) (by decide +kernel)
theorem ml9_367 : Cond.methodLink "MaskedThrowsModel" 367 (mY 167) ∈ gw := gw_t (i := 1226) (by decide +kernel) (by decide +kernel)
theorem ml9_371 : Cond.methodLink "MaskedThrowsModel" 371 (mY 168) ∈ gw := gw_t (i := 1231) (by decide +kernel) (by decide +kernel)
theorem ml9_378 : Cond.methodLink "MaskedThrowsModel" 378 (mY 169) ∈ gw := gw_t (i := 1234) (by decide +kernel) (by decide +kernel)
theorem ml9_375 : Cond.methodLink "MaskedThrowsModel" 375 (mY 170) ∈ gw := gw_t (i := 1238) (by decide +kernel) (by decide +kernel)
theorem ml9_382 : Cond.methodLink "MaskedThrowsModel" 382 (mY 171) ∈ gw := gw_t (i := 1242) (by decide +kernel) (by decide +kernel)
theorem ml9_390 : Cond.methodLink "MaskedThrowsModel" 390 (mY 172) ∈ gw := gw_t (i := 1246) (by decide +kernel) (by decide +kernel)
theorem ml9_396 : Cond.methodLink "MaskedThrowsModel" 396 (mY 173) ∈ gw := gw_t (i := 1250) (by decide +kernel) (by decide +kernel)
theorem ml9_400 : Cond.methodLink "MaskedThrowsModel" 400 (mY 174) ∈ gw := gw_t (i := 1254) (by decide +kernel) (by decide +kernel)
theorem ml9_403 : Cond.methodLink "MaskedThrowsModel" 403 (mY 175) ∈ gw := gw_t (i := 1258) (by decide +kernel) (by decide +kernel)
theorem ml9_410 : Cond.methodLink "MaskedThrowsModel" 410 (mY 176) ∈ gw := gw_t (i := 1262) (by decide +kernel) (by decide +kernel)
theorem ml10_51 : Cond.methodLink "MaskedThrowsLaw" 51 (mY 177) ∈ gw := gw_t (i := 1266) (by decide +kernel) (by decide +kernel)
theorem ml10_56 : Cond.methodLink "MaskedThrowsLaw" 56 (mY 178) ∈ gw := gw_t (i := 1272) (by decide +kernel) (by decide +kernel)
theorem ml10_60 : Cond.methodLink "MaskedThrowsLaw" 60 (mY 179) ∈ gw := gw_t (i := 1276) (by decide +kernel) (by decide +kernel)
theorem ml9_429 : Cond.methodLink "MaskedThrowsModel" 429 (mY 180) ∈ gw := gw_t (i := 1280) (by decide +kernel) (by decide +kernel)
theorem ml10_64 : Cond.methodLink "MaskedThrowsLaw" 64 (mY 181) ∈ gw := gw_t (i := 1283) (by decide +kernel) (by decide +kernel)
theorem ml10_69 : Cond.methodLink "MaskedThrowsLaw" 69 (mY 182) ∈ gw := gw_t (i := 1287) (by decide +kernel) (by decide +kernel)
theorem ml10_73 : Cond.methodLink "MaskedThrowsLaw" 73 (mY 183) ∈ gw := gw_t (i := 1291) (by decide +kernel) (by decide +kernel)
theorem ml10_77 : Cond.methodLink "MaskedThrowsLaw" 77 (mY 184) ∈ gw := gw_t (i := 1295) (by decide +kernel) (by decide +kernel)
theorem ml10_82 : Cond.methodLink "MaskedThrowsLaw" 82 (mY 185) ∈ gw := gw_t (i := 1299) (by decide +kernel) (by decide +kernel)
theorem ml10_87 : Cond.methodLink "MaskedThrowsLaw" 87 (mY 186) ∈ gw := gw_t (i := 1303) (by decide +kernel) (by decide +kernel)
theorem ml9_432 : Cond.methodLink "MaskedThrowsModel" 432 (mY 187) ∈ gw := gw_t (i := 1307) (by decide +kernel) (by decide +kernel)
theorem ml10_91 : Cond.methodLink "MaskedThrowsLaw" 91 (mY 188) ∈ gw := gw_t (i := 1311) (by decide +kernel) (by decide +kernel)
theorem ml10_95 : Cond.methodLink "MaskedThrowsLaw" 95 (mY 189) ∈ gw := gw_t (i := 1315) (by decide +kernel) (by decide +kernel)
theorem ml9_438 : Cond.methodLink "MaskedThrowsModel" 438 (mY 190) ∈ gw := gw_t (i := 1319) (by decide +kernel) (by decide +kernel)
theorem ml9_435 : Cond.methodLink "MaskedThrowsModel" 435 (mY 191) ∈ gw := gw_t (i := 1323) (by decide +kernel) (by decide +kernel)
theorem ml10_99 : Cond.methodLink "MaskedThrowsLaw" 99 (mY 192) ∈ gw := gw_t (i := 1327) (by decide +kernel) (by decide +kernel)
theorem ml10_103 : Cond.methodLink "MaskedThrowsLaw" 103 (mY 193) ∈ gw := gw_t (i := 1331) (by decide +kernel) (by decide +kernel)
theorem ml10_107 : Cond.methodLink "MaskedThrowsLaw" 107 (mY 194) ∈ gw := gw_t (i := 1335) (by decide +kernel) (by decide +kernel)
theorem ml10_111 : Cond.methodLink "MaskedThrowsLaw" 111 (mY 195) ∈ gw := gw_t (i := 1339) (by decide +kernel) (by decide +kernel)
theorem ml10_115 : Cond.methodLink "MaskedThrowsLaw" 115 (mY 196) ∈ gw := gw_t (i := 1343) (by decide +kernel) (by decide +kernel)
theorem fl6_9 : Cond.fieldLink "MaskedThrows$Tokens" 9 (fT6 0).1 (fT6 0).2.1 (fT6 0).2.2.1 ∈ gw := gw_t (i := 36) (by decide +kernel) (by decide +kernel)
theorem fl3_46 : Cond.fieldLink "MaskedThrows$Parser" 46 (fT6 0).1 (fT6 0).2.1 (fT6 0).2.2.1 ∈ gw := gw_t (i := 37) (by decide +kernel) (by decide +kernel)
theorem fl6_15 : Cond.fieldLink "MaskedThrows$Tokens" 15 (fT6 1).1 (fT6 1).2.1 (fT6 1).2.2.1 ∈ gw := gw_t (i := 38) (by decide +kernel) (by decide +kernel)
theorem fl3_92 : Cond.fieldLink "MaskedThrows$Parser" 92 (fT6 1).1 (fT6 1).2.1 (fT6 1).2.2.1 ∈ gw := gw_t (i := 39) (by decide +kernel) (by decide +kernel)
theorem fl6_18 : Cond.fieldLink "MaskedThrows$Tokens" 18 (fT6 2).1 (fT6 2).2.1 (fT6 2).2.2.1 ∈ gw := gw_t (i := 40) (by decide +kernel) (by decide +kernel)
theorem fl3_39 : Cond.fieldLink "MaskedThrows$Parser" 39 (fT6 2).1 (fT6 2).2.1 (fT6 2).2.2.1 ∈ gw := gw_t (i := 41) (by decide +kernel) (by decide +kernel)
theorem fl6_21 : Cond.fieldLink "MaskedThrows$Tokens" 21 (fT6 3).1 (fT6 3).2.1 (fT6 3).2.2.1 ∈ gw := gw_t (i := 42) (by decide +kernel) (by decide +kernel)
theorem fl3_12 : Cond.fieldLink "MaskedThrows$Parser" 12 (fT3 0).1 (fT3 0).2.1 (fT3 0).2.2.1 ∈ gw := gw_t (i := 53) (by decide +kernel) (by decide +kernel)
theorem fl3_27 : Cond.fieldLink "MaskedThrows$Parser" 27 (fT3 1).1 (fT3 1).2.1 (fT3 1).2.2.1 ∈ gw := gw_t (i := 54) (by decide +kernel) (by decide +kernel)
theorem fl3_31 : Cond.fieldLink "MaskedThrows$Parser" 31 (fT3 2).1 (fT3 2).2.1 (fT3 2).2.2.1 ∈ gw := gw_t (i := 55) (by decide +kernel) (by decide +kernel)
theorem fl4_43 : Cond.fieldLink "MaskedThrows$Program" 43 (fT4 0).1 (fT4 0).2.1 (fT4 0).2.2.1 ∈ gw := gw_t (i := 70) (by decide +kernel) (by decide +kernel)
theorem fl3_49 : Cond.fieldLink "MaskedThrows$Parser" 49 (fT4 0).1 (fT4 0).2.1 (fT4 0).2.2.1 ∈ gw := gw_t (i := 71) (by decide +kernel) (by decide +kernel)
theorem fl8_56 : Cond.fieldLink "MaskedThrows" 56 (fT4 0).1 (fT4 0).2.1 (fT4 0).2.2.1 ∈ gw := gw_t (i := 72) (by decide +kernel) (by decide +kernel)
theorem fl4_47 : Cond.fieldLink "MaskedThrows$Program" 47 (fT4 1).1 (fT4 1).2.1 (fT4 1).2.2.1 ∈ gw := gw_t (i := 73) (by decide +kernel) (by decide +kernel)
theorem fl8_59 : Cond.fieldLink "MaskedThrows" 59 (fT4 1).1 (fT4 1).2.1 (fT4 1).2.2.1 ∈ gw := gw_t (i := 74) (by decide +kernel) (by decide +kernel)
theorem fl3_131 : Cond.fieldLink "MaskedThrows$Parser" 131 (fT4 1).1 (fT4 1).2.1 (fT4 1).2.2.1 ∈ gw := gw_t (i := 75) (by decide +kernel) (by decide +kernel)
theorem fl4_50 : Cond.fieldLink "MaskedThrows$Program" 50 (fT4 2).1 (fT4 2).2.1 (fT4 2).2.2.1 ∈ gw := gw_t (i := 76) (by decide +kernel) (by decide +kernel)
theorem fl8_62 : Cond.fieldLink "MaskedThrows" 62 (fT4 2).1 (fT4 2).2.1 (fT4 2).2.2.1 ∈ gw := gw_t (i := 77) (by decide +kernel) (by decide +kernel)
theorem fl3_98 : Cond.fieldLink "MaskedThrows$Parser" 98 (fT4 2).1 (fT4 2).2.1 (fT4 2).2.2.1 ∈ gw := gw_t (i := 78) (by decide +kernel) (by decide +kernel)
theorem fl4_53 : Cond.fieldLink "MaskedThrows$Program" 53 (fT4 3).1 (fT4 3).2.1 (fT4 3).2.2.1 ∈ gw := gw_t (i := 79) (by decide +kernel) (by decide +kernel)
theorem fl3_110 : Cond.fieldLink "MaskedThrows$Parser" 110 (fT4 3).1 (fT4 3).2.1 (fT4 3).2.2.1 ∈ gw := gw_t (i := 80) (by decide +kernel) (by decide +kernel)
theorem fl4_9 : Cond.fieldLink "MaskedThrows$Program" 9 (fT4 4).1 (fT4 4).2.1 (fT4 4).2.2.1 ∈ gw := gw_t (i := 81) (by decide +kernel) (by decide +kernel)
theorem fl7_134 : Cond.fieldLink "MaskedThrows$World" 134 (fT4 4).1 (fT4 4).2.1 (fT4 4).2.2.1 ∈ gw := gw_t (i := 82) (by decide +kernel) (by decide +kernel)
theorem fl2_112 : Cond.fieldLink "MaskedThrows$Fiber" 112 (fT4 4).1 (fT4 4).2.1 (fT4 4).2.2.1 ∈ gw := gw_t (i := 83) (by decide +kernel) (by decide +kernel)
theorem fl4_15 : Cond.fieldLink "MaskedThrows$Program" 15 (fT4 5).1 (fT4 5).2.1 (fT4 5).2.2.1 ∈ gw := gw_t (i := 84) (by decide +kernel) (by decide +kernel)
theorem fl3_89 : Cond.fieldLink "MaskedThrows$Parser" 89 (fT4 5).1 (fT4 5).2.1 (fT4 5).2.2.1 ∈ gw := gw_t (i := 85) (by decide +kernel) (by decide +kernel)
theorem fl7_140 : Cond.fieldLink "MaskedThrows$World" 140 (fT4 5).1 (fT4 5).2.1 (fT4 5).2.2.1 ∈ gw := gw_t (i := 86) (by decide +kernel) (by decide +kernel)
theorem fl2_186 : Cond.fieldLink "MaskedThrows$Fiber" 186 (fT4 5).1 (fT4 5).2.1 (fT4 5).2.2.1 ∈ gw := gw_t (i := 87) (by decide +kernel) (by decide +kernel)
theorem fl4_18 : Cond.fieldLink "MaskedThrows$Program" 18 (fT4 6).1 (fT4 6).2.1 (fT4 6).2.2.1 ∈ gw := gw_t (i := 88) (by decide +kernel) (by decide +kernel)
theorem fl3_95 : Cond.fieldLink "MaskedThrows$Parser" 95 (fT4 6).1 (fT4 6).2.1 (fT4 6).2.2.1 ∈ gw := gw_t (i := 89) (by decide +kernel) (by decide +kernel)
theorem fl7_175 : Cond.fieldLink "MaskedThrows$World" 175 (fT4 6).1 (fT4 6).2.1 (fT4 6).2.2.1 ∈ gw := gw_t (i := 90) (by decide +kernel) (by decide +kernel)
theorem fl2_146 : Cond.fieldLink "MaskedThrows$Fiber" 146 (fT4 6).1 (fT4 6).2.1 (fT4 6).2.2.1 ∈ gw := gw_t (i := 91) (by decide +kernel) (by decide +kernel)
theorem fl4_21 : Cond.fieldLink "MaskedThrows$Program" 21 (fT4 7).1 (fT4 7).2.1 (fT4 7).2.2.1 ∈ gw := gw_t (i := 92) (by decide +kernel) (by decide +kernel)
theorem fl3_107 : Cond.fieldLink "MaskedThrows$Parser" 107 (fT4 7).1 (fT4 7).2.1 (fT4 7).2.2.1 ∈ gw := gw_t (i := 93) (by decide +kernel) (by decide +kernel)
theorem fl4_24 : Cond.fieldLink "MaskedThrows$Program" 24 (fT4 8).1 (fT4 8).2.1 (fT4 8).2.2.1 ∈ gw := gw_t (i := 94) (by decide +kernel) (by decide +kernel)
theorem fl3_116 : Cond.fieldLink "MaskedThrows$Parser" 116 (fT4 8).1 (fT4 8).2.1 (fT4 8).2.2.1 ∈ gw := gw_t (i := 95) (by decide +kernel) (by decide +kernel)
theorem fl4_27 : Cond.fieldLink "MaskedThrows$Program" 27 (fT4 9).1 (fT4 9).2.1 (fT4 9).2.2.1 ∈ gw := gw_t (i := 96) (by decide +kernel) (by decide +kernel)
theorem fl3_56 : Cond.fieldLink "MaskedThrows$Parser" 56 (fT4 9).1 (fT4 9).2.1 (fT4 9).2.2.1 ∈ gw := gw_t (i := 97) (by decide +kernel) (by decide +kernel)
theorem fl2_98 : Cond.fieldLink "MaskedThrows$Fiber" 98 (fT4 9).1 (fT4 9).2.1 (fT4 9).2.2.1 ∈ gw := gw_t (i := 98) (by decide +kernel) (by decide +kernel)
theorem fl4_30 : Cond.fieldLink "MaskedThrows$Program" 30 (fT4 10).1 (fT4 10).2.1 (fT4 10).2.2.1 ∈ gw := gw_t (i := 99) (by decide +kernel) (by decide +kernel)
theorem fl3_43 : Cond.fieldLink "MaskedThrows$Parser" 43 (fT4 10).1 (fT4 10).2.1 (fT4 10).2.2.1 ∈ gw := gw_t (i := 100) (by decide +kernel) (by decide +kernel)
theorem fl2_72 : Cond.fieldLink "MaskedThrows$Fiber" 72 (fT4 10).1 (fT4 10).2.1 (fT4 10).2.2.1 ∈ gw := gw_t (i := 101) (by decide +kernel) (by decide +kernel)
theorem fl4_33 : Cond.fieldLink "MaskedThrows$Program" 33 (fT4 11).1 (fT4 11).2.1 (fT4 11).2.2.1 ∈ gw := gw_t (i := 102) (by decide +kernel) (by decide +kernel)
theorem fl4_36 : Cond.fieldLink "MaskedThrows$Program" 36 (fT4 12).1 (fT4 12).2.1 (fT4 12).2.2.1 ∈ gw := gw_t (i := 103) (by decide +kernel) (by decide +kernel)
theorem fl4_39 : Cond.fieldLink "MaskedThrows$Program" 39 (fT4 13).1 (fT4 13).2.1 (fT4 13).2.2.1 ∈ gw := gw_t (i := 104) (by decide +kernel) (by decide +kernel)
theorem fl7_44 : Cond.fieldLink "MaskedThrows$World" 44 (fT1 0).1 (fT1 0).2.1 (fT1 0).2.2.1 ∈ gw := gw_t (i := 147) (by decide +kernel) (by decide +kernel)
theorem fl1_27 : Cond.fieldLink "MaskedThrows$Chronicle" 27 (fT1 0).1 (fT1 0).2.1 (fT1 0).2.2.1 ∈ gw := gw_t (i := 148) (by decide +kernel) (by decide +kernel)
theorem fl2_118 : Cond.fieldLink "MaskedThrows$Fiber" 118 (fT1 0).1 (fT1 0).2.1 (fT1 0).2.2.1 ∈ gw := gw_t (i := 149) (by decide +kernel) (by decide +kernel)
theorem fl8_163 : Cond.fieldLink "MaskedThrows" 163 (fT1 0).1 (fT1 0).2.1 (fT1 0).2.2.1 ∈ gw := gw_t (i := 150) (by decide +kernel) (by decide +kernel)
theorem fl1_23 : Cond.fieldLink "MaskedThrows$Chronicle" 23 (fT1 1).1 (fT1 1).2.1 (fT1 1).2.2.1 ∈ gw := gw_t (i := 151) (by decide +kernel) (by decide +kernel)
theorem fl7_48 : Cond.fieldLink "MaskedThrows$World" 48 (fT1 1).1 (fT1 1).2.1 (fT1 1).2.2.1 ∈ gw := gw_t (i := 152) (by decide +kernel) (by decide +kernel)
theorem fl8_168 : Cond.fieldLink "MaskedThrows" 168 (fT1 1).1 (fT1 1).2.1 (fT1 1).2.2.1 ∈ gw := gw_t (i := 153) (by decide +kernel) (by decide +kernel)
theorem fl1_7 : Cond.fieldLink "MaskedThrows$Chronicle" 7 (fT1 2).1 (fT1 2).2.1 (fT1 2).2.2.1 ∈ gw := gw_t (i := 154) (by decide +kernel) (by decide +kernel)
theorem fl8_172 : Cond.fieldLink "MaskedThrows" 172 (fT1 2).1 (fT1 2).2.1 (fT1 2).2.2.1 ∈ gw := gw_t (i := 155) (by decide +kernel) (by decide +kernel)
theorem fl1_13 : Cond.fieldLink "MaskedThrows$Chronicle" 13 (fT1 3).1 (fT1 3).2.1 (fT1 3).2.2.1 ∈ gw := gw_t (i := 156) (by decide +kernel) (by decide +kernel)
theorem fl8_175 : Cond.fieldLink "MaskedThrows" 175 (fT1 3).1 (fT1 3).2.1 (fT1 3).2.2.1 ∈ gw := gw_t (i := 157) (by decide +kernel) (by decide +kernel)
theorem fl1_16 : Cond.fieldLink "MaskedThrows$Chronicle" 16 (fT1 4).1 (fT1 4).2.1 (fT1 4).2.2.1 ∈ gw := gw_t (i := 158) (by decide +kernel) (by decide +kernel)
theorem fl8_178 : Cond.fieldLink "MaskedThrows" 178 (fT1 4).1 (fT1 4).2.1 (fT1 4).2.2.1 ∈ gw := gw_t (i := 159) (by decide +kernel) (by decide +kernel)
theorem fl1_19 : Cond.fieldLink "MaskedThrows$Chronicle" 19 (fT1 5).1 (fT1 5).2.1 (fT1 5).2.2.1 ∈ gw := gw_t (i := 160) (by decide +kernel) (by decide +kernel)
theorem fl8_181 : Cond.fieldLink "MaskedThrows" 181 (fT1 5).1 (fT1 5).2.1 (fT1 5).2.2.1 ∈ gw := gw_t (i := 161) (by decide +kernel) (by decide +kernel)
theorem fl5_22 : Cond.fieldLink "MaskedThrows$Row" 22 (fT5 0).1 (fT5 0).2.1 (fT5 0).2.2.1 ∈ gw := gw_t (i := 191) (by decide +kernel) (by decide +kernel)
theorem fl2_57 : Cond.fieldLink "MaskedThrows$Fiber" 57 (fT5 0).1 (fT5 0).2.1 (fT5 0).2.2.1 ∈ gw := gw_t (i := 192) (by decide +kernel) (by decide +kernel)
theorem fl7_79 : Cond.fieldLink "MaskedThrows$World" 79 (fT5 0).1 (fT5 0).2.1 (fT5 0).2.2.1 ∈ gw := gw_t (i := 193) (by decide +kernel) (by decide +kernel)
theorem fl8_103 : Cond.fieldLink "MaskedThrows" 103 (fT5 0).1 (fT5 0).2.1 (fT5 0).2.2.1 ∈ gw := gw_t (i := 194) (by decide +kernel) (by decide +kernel)
theorem fl5_9 : Cond.fieldLink "MaskedThrows$Row" 9 (fT5 1).1 (fT5 1).2.1 (fT5 1).2.2.1 ∈ gw := gw_t (i := 195) (by decide +kernel) (by decide +kernel)
theorem fl8_147 : Cond.fieldLink "MaskedThrows" 147 (fT5 1).1 (fT5 1).2.1 (fT5 1).2.2.1 ∈ gw := gw_t (i := 196) (by decide +kernel) (by decide +kernel)
theorem fl5_15 : Cond.fieldLink "MaskedThrows$Row" 15 (fT5 2).1 (fT5 2).2.1 (fT5 2).2.2.1 ∈ gw := gw_t (i := 197) (by decide +kernel) (by decide +kernel)
theorem fl7_106 : Cond.fieldLink "MaskedThrows$World" 106 (fT5 2).1 (fT5 2).2.1 (fT5 2).2.2.1 ∈ gw := gw_t (i := 198) (by decide +kernel) (by decide +kernel)
theorem fl8_150 : Cond.fieldLink "MaskedThrows" 150 (fT5 2).1 (fT5 2).2.1 (fT5 2).2.2.1 ∈ gw := gw_t (i := 199) (by decide +kernel) (by decide +kernel)
theorem fl5_18 : Cond.fieldLink "MaskedThrows$Row" 18 (fT5 3).1 (fT5 3).2.1 (fT5 3).2.2.1 ∈ gw := gw_t (i := 200) (by decide +kernel) (by decide +kernel)
theorem fl7_99 : Cond.fieldLink "MaskedThrows$World" 99 (fT5 3).1 (fT5 3).2.1 (fT5 3).2.2.1 ∈ gw := gw_t (i := 201) (by decide +kernel) (by decide +kernel)
theorem fl8_153 : Cond.fieldLink "MaskedThrows" 153 (fT5 3).1 (fT5 3).2.1 (fT5 3).2.2.1 ∈ gw := gw_t (i := 202) (by decide +kernel) (by decide +kernel)
theorem fl0_9 : Cond.fieldLink "MaskedThrows$Body" 9 (fT0 0).1 (fT0 0).2.1 (fT0 0).2.2.1 ∈ gw := gw_t (i := 219) (by decide +kernel) (by decide +kernel)
theorem fl2_124 : Cond.fieldLink "MaskedThrows$Fiber" 124 (fT0 0).1 (fT0 0).2.1 (fT0 0).2.2.1 ∈ gw := gw_t (i := 220) (by decide +kernel) (by decide +kernel)
theorem fl0_22 : Cond.fieldLink "MaskedThrows$Body" 22 (fT0 1).1 (fT0 1).2.1 (fT0 1).2.2.1 ∈ gw := gw_t (i := 221) (by decide +kernel) (by decide +kernel)
theorem fl2_152 : Cond.fieldLink "MaskedThrows$Fiber" 152 (fT0 1).1 (fT0 1).2.1 (fT0 1).2.2.1 ∈ gw := gw_t (i := 222) (by decide +kernel) (by decide +kernel)
theorem fl0_15 : Cond.fieldLink "MaskedThrows$Body" 15 (fT0 2).1 (fT0 2).2.1 (fT0 2).2.2.1 ∈ gw := gw_t (i := 223) (by decide +kernel) (by decide +kernel)
theorem fl2_135 : Cond.fieldLink "MaskedThrows$Fiber" 135 (fT0 2).1 (fT0 2).2.1 (fT0 2).2.2.1 ∈ gw := gw_t (i := 224) (by decide +kernel) (by decide +kernel)
theorem fl0_25 : Cond.fieldLink "MaskedThrows$Body" 25 (fT0 3).1 (fT0 3).2.1 (fT0 3).2.2.1 ∈ gw := gw_t (i := 225) (by decide +kernel) (by decide +kernel)
theorem fl2_91 : Cond.fieldLink "MaskedThrows$Fiber" 91 (fT0 3).1 (fT0 3).2.1 (fT0 3).2.2.1 ∈ gw := gw_t (i := 226) (by decide +kernel) (by decide +kernel)
theorem fl0_28 : Cond.fieldLink "MaskedThrows$Body" 28 (fT0 4).1 (fT0 4).2.1 (fT0 4).2.2.1 ∈ gw := gw_t (i := 227) (by decide +kernel) (by decide +kernel)
theorem fl2_115 : Cond.fieldLink "MaskedThrows$Fiber" 115 (fT0 4).1 (fT0 4).2.1 (fT0 4).2.2.1 ∈ gw := gw_t (i := 228) (by decide +kernel) (by decide +kernel)
theorem fl0_35 : Cond.fieldLink "MaskedThrows$Body" 35 (fT0 5).1 (fT0 5).2.1 (fT0 5).2.2.1 ∈ gw := gw_t (i := 229) (by decide +kernel) (by decide +kernel)
theorem fl2_121 : Cond.fieldLink "MaskedThrows$Fiber" 121 (fT0 5).1 (fT0 5).2.1 (fT0 5).2.2.1 ∈ gw := gw_t (i := 230) (by decide +kernel) (by decide +kernel)
theorem fl0_31 : Cond.fieldLink "MaskedThrows$Body" 31 (fT0 6).1 (fT0 6).2.1 (fT0 6).2.2.1 ∈ gw := gw_t (i := 231) (by decide +kernel) (by decide +kernel)
theorem fl2_94 : Cond.fieldLink "MaskedThrows$Fiber" 94 (fT0 6).1 (fT0 6).2.1 (fT0 6).2.2.1 ∈ gw := gw_t (i := 232) (by decide +kernel) (by decide +kernel)
theorem fl0_38 : Cond.fieldLink "MaskedThrows$Body" 38 (fT0 7).1 (fT0 7).2.1 (fT0 7).2.2.1 ∈ gw := gw_t (i := 233) (by decide +kernel) (by decide +kernel)
theorem fl2_162 : Cond.fieldLink "MaskedThrows$Fiber" 162 (fT0 7).1 (fT0 7).2.1 (fT0 7).2.2.1 ∈ gw := gw_t (i := 234) (by decide +kernel) (by decide +kernel)
theorem fl0_42 : Cond.fieldLink "MaskedThrows$Body" 42 (fT0 8).1 (fT0 8).2.1 (fT0 8).2.2.1 ∈ gw := gw_t (i := 235) (by decide +kernel) (by decide +kernel)
theorem fl2_165 : Cond.fieldLink "MaskedThrows$Fiber" 165 (fT0 8).1 (fT0 8).2.1 (fT0 8).2.2.1 ∈ gw := gw_t (i := 236) (by decide +kernel) (by decide +kernel)
theorem fl2_28 : Cond.fieldLink "MaskedThrows$Fiber" 28 (fT2 0).1 (fT2 0).2.1 (fT2 0).2.2.1 ∈ gw := gw_t (i := 256) (by decide +kernel) (by decide +kernel)
theorem fl7_116 : Cond.fieldLink "MaskedThrows$World" 116 (fT2 0).1 (fT2 0).2.1 (fT2 0).2.2.1 ∈ gw := gw_t (i := 257) (by decide +kernel) (by decide +kernel)
theorem fl2_12 : Cond.fieldLink "MaskedThrows$Fiber" 12 (fT2 1).1 (fT2 1).2.1 (fT2 1).2.2.1 ∈ gw := gw_t (i := 258) (by decide +kernel) (by decide +kernel)
theorem fl7_75 : Cond.fieldLink "MaskedThrows$World" 75 (fT2 1).1 (fT2 1).2.1 (fT2 1).2.2.1 ∈ gw := gw_t (i := 259) (by decide +kernel) (by decide +kernel)
theorem fl8_89 : Cond.fieldLink "MaskedThrows" 89 (fT2 1).1 (fT2 1).2.1 (fT2 1).2.2.1 ∈ gw := gw_t (i := 260) (by decide +kernel) (by decide +kernel)
theorem fl2_18 : Cond.fieldLink "MaskedThrows$Fiber" 18 (fT2 2).1 (fT2 2).2.1 (fT2 2).2.2.1 ∈ gw := gw_t (i := 261) (by decide +kernel) (by decide +kernel)
theorem fl7_137 : Cond.fieldLink "MaskedThrows$World" 137 (fT2 2).1 (fT2 2).2.1 (fT2 2).2.2.1 ∈ gw := gw_t (i := 262) (by decide +kernel) (by decide +kernel)
theorem fl8_140 : Cond.fieldLink "MaskedThrows" 140 (fT2 2).1 (fT2 2).2.1 (fT2 2).2.2.1 ∈ gw := gw_t (i := 263) (by decide +kernel) (by decide +kernel)
theorem fl2_24 : Cond.fieldLink "MaskedThrows$Fiber" 24 (fT2 3).1 (fT2 3).2.1 (fT2 3).2.2.1 ∈ gw := gw_t (i := 264) (by decide +kernel) (by decide +kernel)
theorem fl2_32 : Cond.fieldLink "MaskedThrows$Fiber" 32 (fT2 4).1 (fT2 4).2.1 (fT2 4).2.2.1 ∈ gw := gw_t (i := 265) (by decide +kernel) (by decide +kernel)
theorem fl2_36 : Cond.fieldLink "MaskedThrows$Fiber" 36 (fT2 5).1 (fT2 5).2.1 (fT2 5).2.2.1 ∈ gw := gw_t (i := 266) (by decide +kernel) (by decide +kernel)
theorem fl7_130 : Cond.fieldLink "MaskedThrows$World" 130 (fT2 5).1 (fT2 5).2.1 (fT2 5).2.2.1 ∈ gw := gw_t (i := 267) (by decide +kernel) (by decide +kernel)
theorem fl2_44 : Cond.fieldLink "MaskedThrows$Fiber" 44 (fT2 6).1 (fT2 6).2.1 (fT2 6).2.2.1 ∈ gw := gw_t (i := 268) (by decide +kernel) (by decide +kernel)
theorem fl7_181 : Cond.fieldLink "MaskedThrows$World" 181 (fT2 6).1 (fT2 6).2.1 (fT2 6).2.2.1 ∈ gw := gw_t (i := 269) (by decide +kernel) (by decide +kernel)
theorem fl8_117 : Cond.fieldLink "MaskedThrows" 117 (fT2 6).1 (fT2 6).2.1 (fT2 6).2.2.1 ∈ gw := gw_t (i := 270) (by decide +kernel) (by decide +kernel)
theorem fl2_60 : Cond.fieldLink "MaskedThrows$Fiber" 60 (fT2 7).1 (fT2 7).2.1 (fT2 7).2.2.1 ∈ gw := gw_t (i := 271) (by decide +kernel) (by decide +kernel)
theorem fl7_72 : Cond.fieldLink "MaskedThrows$World" 72 (fT2 7).1 (fT2 7).2.1 (fT2 7).2.2.1 ∈ gw := gw_t (i := 272) (by decide +kernel) (by decide +kernel)
theorem fl8_120 : Cond.fieldLink "MaskedThrows" 120 (fT2 7).1 (fT2 7).2.1 (fT2 7).2.2.1 ∈ gw := gw_t (i := 273) (by decide +kernel) (by decide +kernel)
theorem fl2_47 : Cond.fieldLink "MaskedThrows$Fiber" 47 (fT2 8).1 (fT2 8).2.1 (fT2 8).2.2.1 ∈ gw := gw_t (i := 274) (by decide +kernel) (by decide +kernel)
theorem fl7_65 : Cond.fieldLink "MaskedThrows$World" 65 (fT2 8).1 (fT2 8).2.1 (fT2 8).2.2.1 ∈ gw := gw_t (i := 275) (by decide +kernel) (by decide +kernel)
theorem fl8_123 : Cond.fieldLink "MaskedThrows" 123 (fT2 8).1 (fT2 8).2.1 (fT2 8).2.2.1 ∈ gw := gw_t (i := 276) (by decide +kernel) (by decide +kernel)
theorem fl2_63 : Cond.fieldLink "MaskedThrows$Fiber" 63 (fT2 9).1 (fT2 9).2.1 (fT2 9).2.2.1 ∈ gw := gw_t (i := 277) (by decide +kernel) (by decide +kernel)
theorem fl8_126 : Cond.fieldLink "MaskedThrows" 126 (fT2 9).1 (fT2 9).2.1 (fT2 9).2.2.1 ∈ gw := gw_t (i := 278) (by decide +kernel) (by decide +kernel)
theorem fl2_66 : Cond.fieldLink "MaskedThrows$Fiber" 66 (fT2 10).1 (fT2 10).2.1 (fT2 10).2.2.1 ∈ gw := gw_t (i := 279) (by decide +kernel) (by decide +kernel)
theorem fl8_129 : Cond.fieldLink "MaskedThrows" 129 (fT2 10).1 (fT2 10).2.1 (fT2 10).2.2.1 ∈ gw := gw_t (i := 280) (by decide +kernel) (by decide +kernel)
theorem fl2_50 : Cond.fieldLink "MaskedThrows$Fiber" 50 (fT2 11).1 (fT2 11).2.1 (fT2 11).2.2.1 ∈ gw := gw_t (i := 281) (by decide +kernel) (by decide +kernel)
theorem fl8_136 : Cond.fieldLink "MaskedThrows" 136 (fT2 11).1 (fT2 11).2.1 (fT2 11).2.2.1 ∈ gw := gw_t (i := 282) (by decide +kernel) (by decide +kernel)
theorem fl2_40 : Cond.fieldLink "MaskedThrows$Fiber" 40 (fT2 12).1 (fT2 12).2.1 (fT2 12).2.2.1 ∈ gw := gw_t (i := 283) (by decide +kernel) (by decide +kernel)
theorem fl7_123 : Cond.fieldLink "MaskedThrows$World" 123 (fT2 12).1 (fT2 12).2.1 (fT2 12).2.2.1 ∈ gw := gw_t (i := 284) (by decide +kernel) (by decide +kernel)
theorem fl7_102 : Cond.fieldLink "MaskedThrows$World" 102 (fT2 13).1 (fT2 13).2.1 (fT2 13).2.2.1 ∈ gw := gw_t (i := 285) (by decide +kernel) (by decide +kernel)
theorem fl2_88 : Cond.fieldLink "MaskedThrows$Fiber" 88 (fT2 13).1 (fT2 13).2.1 (fT2 13).2.2.1 ∈ gw := gw_t (i := 286) (by decide +kernel) (by decide +kernel)
theorem fl7_110 : Cond.fieldLink "MaskedThrows$World" 110 (fT2 14).1 (fT2 14).2.1 (fT2 14).2.2.1 ∈ gw := gw_t (i := 287) (by decide +kernel) (by decide +kernel)
theorem fl2_168 : Cond.fieldLink "MaskedThrows$Fiber" 168 (fT2 14).1 (fT2 14).2.1 (fT2 14).2.2.1 ∈ gw := gw_t (i := 288) (by decide +kernel) (by decide +kernel)
theorem fl7_32 : Cond.fieldLink "MaskedThrows$World" 32 (fT7 0).1 (fT7 0).2.1 (fT7 0).2.2.1 ∈ gw := gw_t (i := 320) (by decide +kernel) (by decide +kernel)
theorem fl8_159 : Cond.fieldLink "MaskedThrows" 159 (fT7 0).1 (fT7 0).2.1 (fT7 0).2.2.1 ∈ gw := gw_t (i := 321) (by decide +kernel) (by decide +kernel)
theorem fl7_36 : Cond.fieldLink "MaskedThrows$World" 36 (fT7 1).1 (fT7 1).2.1 (fT7 1).2.2.1 ∈ gw := gw_t (i := 322) (by decide +kernel) (by decide +kernel)
theorem fl8_71 : Cond.fieldLink "MaskedThrows" 71 (fT7 1).1 (fT7 1).2.1 (fT7 1).2.2.1 ∈ gw := gw_t (i := 323) (by decide +kernel) (by decide +kernel)
theorem fl7_9 : Cond.fieldLink "MaskedThrows$World" 9 (fT7 2).1 (fT7 2).2.1 (fT7 2).2.2.1 ∈ gw := gw_t (i := 324) (by decide +kernel) (by decide +kernel)
theorem fl8_109 : Cond.fieldLink "MaskedThrows" 109 (fT7 2).1 (fT7 2).2.1 (fT7 2).2.2.1 ∈ gw := gw_t (i := 325) (by decide +kernel) (by decide +kernel)
theorem fl7_15 : Cond.fieldLink "MaskedThrows$World" 15 (fT7 3).1 (fT7 3).2.1 (fT7 3).2.2.1 ∈ gw := gw_t (i := 326) (by decide +kernel) (by decide +kernel)
theorem fl8_113 : Cond.fieldLink "MaskedThrows" 113 (fT7 3).1 (fT7 3).2.1 (fT7 3).2.2.1 ∈ gw := gw_t (i := 327) (by decide +kernel) (by decide +kernel)
theorem fl7_40 : Cond.fieldLink "MaskedThrows$World" 40 (fT7 4).1 (fT7 4).2.1 (fT7 4).2.2.1 ∈ gw := gw_t (i := 328) (by decide +kernel) (by decide +kernel)
theorem fl8_9 : Cond.fieldLink "MaskedThrows" 9 (fT8 0).1 (fT8 0).2.1 (fT8 0).2.2.1 ∈ gw := gw_t (i := 340) (by decide +kernel) (by decide +kernel)
theorem fl8_38 : Cond.fieldLink "MaskedThrows" 38 (fT8 1).1 (fT8 1).2.1 (fT8 1).2.2.1 ∈ gw := gw_t (i := 341) (by decide +kernel) (by decide +kernel)
theorem fl8_16 : Cond.fieldLink "MaskedThrows" 16 (fT8 2).1 (fT8 2).2.1 (fT8 2).2.2.1 ∈ gw := gw_t (i := 342) (by decide +kernel) (by decide +kernel)
theorem fl8_22 : Cond.fieldLink "MaskedThrows" 22 (fT8 3).1 (fT8 3).2.1 (fT8 3).2.2.1 ∈ gw := gw_t (i := 343) (by decide +kernel) (by decide +kernel)
theorem fl8_45 : Cond.fieldLink "MaskedThrows" 45 (fT8 4).1 (fT8 4).2.1 (fT8 4).2.2.1 ∈ gw := gw_t (i := 344) (by decide +kernel) (by decide +kernel)
theorem fl8_27 : Cond.fieldLink "MaskedThrows" 27 (fT8 5).1 (fT8 5).2.1 (fT8 5).2.2.1 ∈ gw := gw_t (i := 345) (by decide +kernel) (by decide +kernel)
theorem fl8_34 : Cond.fieldLink "MaskedThrows" 34 (fT8 6).1 (fT8 6).2.1 (fT8 6).2.2.1 ∈ gw := gw_t (i := 346) (by decide +kernel) (by decide +kernel)
theorem fl9_7 : Cond.fieldLink "MaskedThrowsModel" 7 (fT9 0).1 (fT9 0).2.1 (fT9 0).2.2.1 ∈ gw := gw_t (i := 830) (by decide +kernel) (by decide +kernel)
theorem fl9_170 : Cond.fieldLink "MaskedThrowsModel" 170 (fT9 1).1 (fT9 1).2.1 (fT9 1).2.2.1 ∈ gw := gw_t (i := 831) (by decide +kernel) (by decide +kernel)
theorem fl9_211 : Cond.fieldLink "MaskedThrowsModel" 211 (fT9 2).1 (fT9 2).2.1 (fT9 2).2.2.1 ∈ gw := gw_t (i := 832) (by decide +kernel) (by decide +kernel)
theorem fl9_221 : Cond.fieldLink "MaskedThrowsModel" 221 (fT9 3).1 (fT9 3).2.1 (fT9 3).2.2.1 ∈ gw := gw_t (i := 833) (by decide +kernel) (by decide +kernel)
theorem fl9_218 : Cond.fieldLink "MaskedThrowsModel" 218 (fT9 4).1 (fT9 4).2.1 (fT9 4).2.2.1 ∈ gw := gw_t (i := 834) (by decide +kernel) (by decide +kernel)
theorem fl9_228 : Cond.fieldLink "MaskedThrowsModel" 228 (fT9 5).1 (fT9 5).2.1 (fT9 5).2.2.1 ∈ gw := gw_t (i := 835) (by decide +kernel) (by decide +kernel)
theorem fl9_238 : Cond.fieldLink "MaskedThrowsModel" 238 (fT9 6).1 (fT9 6).2.1 (fT9 6).2.2.1 ∈ gw := gw_t (i := 836) (by decide +kernel) (by decide +kernel)
theorem fl9_246 : Cond.fieldLink "MaskedThrowsModel" 246 (fT9 7).1 (fT9 7).2.1 (fT9 7).2.2.1 ∈ gw := gw_t (i := 837) (by decide +kernel) (by decide +kernel)
theorem fl9_252 : Cond.fieldLink "MaskedThrowsModel" 252 (fT9 8).1 (fT9 8).2.1 (fT9 8).2.2.1 ∈ gw := gw_t (i := 838) (by decide +kernel) (by decide +kernel)
theorem fl9_13 : Cond.fieldLink "MaskedThrowsModel" 13 (fT9 9).1 (fT9 9).2.1 (fT9 9).2.2.1 ∈ gw := gw_t (i := 839) (by decide +kernel) (by decide +kernel)
theorem fl9_344 : Cond.fieldLink "MaskedThrowsModel" 344 (fT9 10).1 (fT9 10).2.1 (fT9 10).2.2.1 ∈ gw := gw_t (i := 840) (by decide +kernel) (by decide +kernel)
theorem fl9_17 : Cond.fieldLink "MaskedThrowsModel" 17 (fT9 11).1 (fT9 11).2.1 (fT9 11).2.2.1 ∈ gw := gw_t (i := 841) (by decide +kernel) (by decide +kernel)
theorem fl9_21 : Cond.fieldLink "MaskedThrowsModel" 21 (fT9 12).1 (fT9 12).2.1 (fT9 12).2.2.1 ∈ gw := gw_t (i := 842) (by decide +kernel) (by decide +kernel)
theorem fl9_24 : Cond.fieldLink "MaskedThrowsModel" 24 (fT9 13).1 (fT9 13).2.1 (fT9 13).2.2.1 ∈ gw := gw_t (i := 843) (by decide +kernel) (by decide +kernel)
theorem fl9_27 : Cond.fieldLink "MaskedThrowsModel" 27 (fT9 14).1 (fT9 14).2.1 (fT9 14).2.2.1 ∈ gw := gw_t (i := 844) (by decide +kernel) (by decide +kernel)
theorem fl9_30 : Cond.fieldLink "MaskedThrowsModel" 30 (fT9 15).1 (fT9 15).2.1 (fT9 15).2.2.1 ∈ gw := gw_t (i := 845) (by decide +kernel) (by decide +kernel)
theorem fl9_33 : Cond.fieldLink "MaskedThrowsModel" 33 (fT9 16).1 (fT9 16).2.1 (fT9 16).2.2.1 ∈ gw := gw_t (i := 846) (by decide +kernel) (by decide +kernel)
theorem fl9_36 : Cond.fieldLink "MaskedThrowsModel" 36 (fT9 17).1 (fT9 17).2.1 (fT9 17).2.2.1 ∈ gw := gw_t (i := 847) (by decide +kernel) (by decide +kernel)
theorem fl9_39 : Cond.fieldLink "MaskedThrowsModel" 39 (fT9 18).1 (fT9 18).2.1 (fT9 18).2.2.1 ∈ gw := gw_t (i := 848) (by decide +kernel) (by decide +kernel)
theorem fl9_42 : Cond.fieldLink "MaskedThrowsModel" 42 (fT9 19).1 (fT9 19).2.1 (fT9 19).2.2.1 ∈ gw := gw_t (i := 849) (by decide +kernel) (by decide +kernel)
theorem fl9_45 : Cond.fieldLink "MaskedThrowsModel" 45 (fT9 20).1 (fT9 20).2.1 (fT9 20).2.2.1 ∈ gw := gw_t (i := 850) (by decide +kernel) (by decide +kernel)
theorem fl9_49 : Cond.fieldLink "MaskedThrowsModel" 49 (fT9 21).1 (fT9 21).2.1 (fT9 21).2.2.1 ∈ gw := gw_t (i := 851) (by decide +kernel) (by decide +kernel)
theorem fl9_52 : Cond.fieldLink "MaskedThrowsModel" 52 (fT9 22).1 (fT9 22).2.1 (fT9 22).2.2.1 ∈ gw := gw_t (i := 852) (by decide +kernel) (by decide +kernel)
theorem fl9_55 : Cond.fieldLink "MaskedThrowsModel" 55 (fT9 23).1 (fT9 23).2.1 (fT9 23).2.2.1 ∈ gw := gw_t (i := 853) (by decide +kernel) (by decide +kernel)
theorem fl9_58 : Cond.fieldLink "MaskedThrowsModel" 58 (fT9 24).1 (fT9 24).2.1 (fT9 24).2.2.1 ∈ gw := gw_t (i := 854) (by decide +kernel) (by decide +kernel)
theorem fl9_61 : Cond.fieldLink "MaskedThrowsModel" 61 (fT9 25).1 (fT9 25).2.1 (fT9 25).2.2.1 ∈ gw := gw_t (i := 855) (by decide +kernel) (by decide +kernel)
theorem fl9_64 : Cond.fieldLink "MaskedThrowsModel" 64 (fT9 26).1 (fT9 26).2.1 (fT9 26).2.2.1 ∈ gw := gw_t (i := 856) (by decide +kernel) (by decide +kernel)
theorem fl9_265 : Cond.fieldLink "MaskedThrowsModel" 265 (fT9 27).1 (fT9 27).2.1 (fT9 27).2.2.1 ∈ gw := gw_t (i := 857) (by decide +kernel) (by decide +kernel)
theorem fl9_68 : Cond.fieldLink "MaskedThrowsModel" 68 (fT9 28).1 (fT9 28).2.1 (fT9 28).2.2.1 ∈ gw := gw_t (i := 858) (by decide +kernel) (by decide +kernel)
theorem fl9_268 : Cond.fieldLink "MaskedThrowsModel" 268 (fT9 29).1 (fT9 29).2.1 (fT9 29).2.2.1 ∈ gw := gw_t (i := 859) (by decide +kernel) (by decide +kernel)
theorem fl9_278 : Cond.fieldLink "MaskedThrowsModel" 278 (fT9 30).1 (fT9 30).2.1 (fT9 30).2.2.1 ∈ gw := gw_t (i := 860) (by decide +kernel) (by decide +kernel)
theorem fl9_71 : Cond.fieldLink "MaskedThrowsModel" 71 (fT9 31).1 (fT9 31).2.1 (fT9 31).2.2.1 ∈ gw := gw_t (i := 861) (by decide +kernel) (by decide +kernel)
theorem fl9_281 : Cond.fieldLink "MaskedThrowsModel" 281 (fT9 32).1 (fT9 32).2.1 (fT9 32).2.2.1 ∈ gw := gw_t (i := 862) (by decide +kernel) (by decide +kernel)
theorem fl9_74 : Cond.fieldLink "MaskedThrowsModel" 74 (fT9 33).1 (fT9 33).2.1 (fT9 33).2.2.1 ∈ gw := gw_t (i := 863) (by decide +kernel) (by decide +kernel)
theorem fl9_77 : Cond.fieldLink "MaskedThrowsModel" 77 (fT9 34).1 (fT9 34).2.1 (fT9 34).2.2.1 ∈ gw := gw_t (i := 864) (by decide +kernel) (by decide +kernel)
theorem fl9_80 : Cond.fieldLink "MaskedThrowsModel" 80 (fT9 35).1 (fT9 35).2.1 (fT9 35).2.2.1 ∈ gw := gw_t (i := 865) (by decide +kernel) (by decide +kernel)
theorem fl9_298 : Cond.fieldLink "MaskedThrowsModel" 298 (fT9 36).1 (fT9 36).2.1 (fT9 36).2.2.1 ∈ gw := gw_t (i := 866) (by decide +kernel) (by decide +kernel)
theorem fl9_353 : Cond.fieldLink "MaskedThrowsModel" 353 (fT9 37).1 (fT9 37).2.1 (fT9 37).2.2.1 ∈ gw := gw_t (i := 867) (by decide +kernel) (by decide +kernel)
theorem fl9_83 : Cond.fieldLink "MaskedThrowsModel" 83 (fT9 38).1 (fT9 38).2.1 (fT9 38).2.2.1 ∈ gw := gw_t (i := 868) (by decide +kernel) (by decide +kernel)
theorem fl9_86 : Cond.fieldLink "MaskedThrowsModel" 86 (fT9 39).1 (fT9 39).2.1 (fT9 39).2.2.1 ∈ gw := gw_t (i := 869) (by decide +kernel) (by decide +kernel)
theorem fl9_89 : Cond.fieldLink "MaskedThrowsModel" 89 (fT9 40).1 (fT9 40).2.1 (fT9 40).2.2.1 ∈ gw := gw_t (i := 870) (by decide +kernel) (by decide +kernel)
theorem fl9_92 : Cond.fieldLink "MaskedThrowsModel" 92 (fT9 41).1 (fT9 41).2.1 (fT9 41).2.2.1 ∈ gw := gw_t (i := 871) (by decide +kernel) (by decide +kernel)
theorem fl9_95 : Cond.fieldLink "MaskedThrowsModel" 95 (fT9 42).1 (fT9 42).2.1 (fT9 42).2.2.1 ∈ gw := gw_t (i := 872) (by decide +kernel) (by decide +kernel)
theorem fl9_98 : Cond.fieldLink "MaskedThrowsModel" 98 (fT9 43).1 (fT9 43).2.1 (fT9 43).2.2.1 ∈ gw := gw_t (i := 873) (by decide +kernel) (by decide +kernel)
theorem fl9_101 : Cond.fieldLink "MaskedThrowsModel" 101 (fT9 44).1 (fT9 44).2.1 (fT9 44).2.2.1 ∈ gw := gw_t (i := 874) (by decide +kernel) (by decide +kernel)
theorem fl9_104 : Cond.fieldLink "MaskedThrowsModel" 104 (fT9 45).1 (fT9 45).2.1 (fT9 45).2.2.1 ∈ gw := gw_t (i := 875) (by decide +kernel) (by decide +kernel)
theorem fl9_107 : Cond.fieldLink "MaskedThrowsModel" 107 (fT9 46).1 (fT9 46).2.1 (fT9 46).2.2.1 ∈ gw := gw_t (i := 876) (by decide +kernel) (by decide +kernel)
theorem fl9_110 : Cond.fieldLink "MaskedThrowsModel" 110 (fT9 47).1 (fT9 47).2.1 (fT9 47).2.2.1 ∈ gw := gw_t (i := 877) (by decide +kernel) (by decide +kernel)
theorem fl9_113 : Cond.fieldLink "MaskedThrowsModel" 113 (fT9 48).1 (fT9 48).2.1 (fT9 48).2.2.1 ∈ gw := gw_t (i := 878) (by decide +kernel) (by decide +kernel)
theorem fl9_116 : Cond.fieldLink "MaskedThrowsModel" 116 (fT9 49).1 (fT9 49).2.1 (fT9 49).2.2.1 ∈ gw := gw_t (i := 879) (by decide +kernel) (by decide +kernel)
theorem fl9_119 : Cond.fieldLink "MaskedThrowsModel" 119 (fT9 50).1 (fT9 50).2.1 (fT9 50).2.2.1 ∈ gw := gw_t (i := 880) (by decide +kernel) (by decide +kernel)
theorem fl9_122 : Cond.fieldLink "MaskedThrowsModel" 122 (fT9 51).1 (fT9 51).2.1 (fT9 51).2.2.1 ∈ gw := gw_t (i := 881) (by decide +kernel) (by decide +kernel)
theorem fl9_125 : Cond.fieldLink "MaskedThrowsModel" 125 (fT9 52).1 (fT9 52).2.1 (fT9 52).2.2.1 ∈ gw := gw_t (i := 882) (by decide +kernel) (by decide +kernel)
theorem fl9_128 : Cond.fieldLink "MaskedThrowsModel" 128 (fT9 53).1 (fT9 53).2.1 (fT9 53).2.2.1 ∈ gw := gw_t (i := 883) (by decide +kernel) (by decide +kernel)
theorem fl9_131 : Cond.fieldLink "MaskedThrowsModel" 131 (fT9 54).1 (fT9 54).2.1 (fT9 54).2.2.1 ∈ gw := gw_t (i := 884) (by decide +kernel) (by decide +kernel)
theorem fl9_134 : Cond.fieldLink "MaskedThrowsModel" 134 (fT9 55).1 (fT9 55).2.1 (fT9 55).2.2.1 ∈ gw := gw_t (i := 885) (by decide +kernel) (by decide +kernel)
theorem fl9_137 : Cond.fieldLink "MaskedThrowsModel" 137 (fT9 56).1 (fT9 56).2.1 (fT9 56).2.2.1 ∈ gw := gw_t (i := 886) (by decide +kernel) (by decide +kernel)
theorem fl9_140 : Cond.fieldLink "MaskedThrowsModel" 140 (fT9 57).1 (fT9 57).2.1 (fT9 57).2.2.1 ∈ gw := gw_t (i := 887) (by decide +kernel) (by decide +kernel)
theorem fl9_143 : Cond.fieldLink "MaskedThrowsModel" 143 (fT9 58).1 (fT9 58).2.1 (fT9 58).2.2.1 ∈ gw := gw_t (i := 888) (by decide +kernel) (by decide +kernel)
theorem fl9_146 : Cond.fieldLink "MaskedThrowsModel" 146 (fT9 59).1 (fT9 59).2.1 (fT9 59).2.2.1 ∈ gw := gw_t (i := 889) (by decide +kernel) (by decide +kernel)
theorem fl9_407 : Cond.fieldLink "MaskedThrowsModel" 407 (fT9 60).1 (fT9 60).2.1 (fT9 60).2.2.1 ∈ gw := gw_t (i := 890) (by decide +kernel) (by decide +kernel)
theorem fl9_149 : Cond.fieldLink "MaskedThrowsModel" 149 (fT9 61).1 (fT9 61).2.1 (fT9 61).2.2.1 ∈ gw := gw_t (i := 891) (by decide +kernel) (by decide +kernel)
theorem fl9_152 : Cond.fieldLink "MaskedThrowsModel" 152 (fT9 62).1 (fT9 62).2.1 (fT9 62).2.2.1 ∈ gw := gw_t (i := 892) (by decide +kernel) (by decide +kernel)
theorem fl9_350 : Cond.fieldLink "MaskedThrowsModel" 350 (fT9 63).1 (fT9 63).2.1 (fT9 63).2.2.1 ∈ gw := gw_t (i := 893) (by decide +kernel) (by decide +kernel)
theorem fl9_155 : Cond.fieldLink "MaskedThrowsModel" 155 (fT9 64).1 (fT9 64).2.1 (fT9 64).2.2.1 ∈ gw := gw_t (i := 894) (by decide +kernel) (by decide +kernel)
theorem fl9_158 : Cond.fieldLink "MaskedThrowsModel" 158 (fT9 65).1 (fT9 65).2.1 (fT9 65).2.2.1 ∈ gw := gw_t (i := 895) (by decide +kernel) (by decide +kernel)
theorem fl9_161 : Cond.fieldLink "MaskedThrowsModel" 161 (fT9 66).1 (fT9 66).2.1 (fT9 66).2.2.1 ∈ gw := gw_t (i := 896) (by decide +kernel) (by decide +kernel)
theorem fl9_164 : Cond.fieldLink "MaskedThrowsModel" 164 (fT9 67).1 (fT9 67).2.1 (fT9 67).2.2.1 ∈ gw := gw_t (i := 897) (by decide +kernel) (by decide +kernel)
theorem fl9_167 : Cond.fieldLink "MaskedThrowsModel" 167 (fT9 68).1 (fT9 68).2.1 (fT9 68).2.2.1 ∈ gw := gw_t (i := 898) (by decide +kernel) (by decide +kernel)
end
section
/-! a light logic over the kit's W: memory is a function from logical addresses (0 the script, 1 and 2 the two texts, 3 .. what was made, in order) -/
abbrev Ce : Type := (Nat × vp_A) ⊕ (Nat × List Value)
abbrev Me : Type := Nat → Ce
def tv (ad : Nat → Nat) : Value → Value
  | .ref i => .ref (ad i)
  | v => v
def tA (ad : Nat → Nat) : vp_A → vp_A
  | (n, .inl f) => (n, .inl f)
  | (n, .inr (.inl f)) => (n, .inr (.inl f))
  | (n, .inr (.inr (.inl f))) => (n, .inr (.inr (.inl f)))
  | (n, .inr (.inr (.inr (.inl f)))) => (n, .inr (.inr (.inr (.inl f))))
  | (n, .inr (.inr (.inr (.inr f)))) => (n, .inr (.inr (.inr (.inr (fun j => (f j).map ad)))))
def tc (dA : Nat → ClassId) (ad : Nat → Nat) : Ce → va_E
  | .inl (t, a) => .inl (dA t, tA ad a)
  | .inr (ci, fs) => .inr (ci, fs.map (tv ad))
/-- where the machine's things lie: classes and slots, array classes, addresses, the first new address, the heap at the start, the script -/
abbrev En : Type := va_G × (Nat → ClassId) × (Nat → Nat) × Nat × Heap × Nat × (Nat → Int32)
def eD (E : En) : va_G := E.1
def eA (E : En) : Nat → ClassId := E.2.1
def ea (E : En) : Nat → Nat := E.2.2.1
def eS (E : En) : Nat := E.2.2.2.1
def eG (E : En) : Heap := E.2.2.2.2.1
def eL (E : En) : Nat := E.2.2.2.2.2.1
def eX (E : En) : Nat → Int32 := E.2.2.2.2.2.2
def eOK (E : En) : Prop := (∀ i, 3 ≤ i → ea E i + 3 = eS E + i) ∧ (∀ i, i < 3 → ea E i < eS E) ∧ (eG E).size = eS E
def tyl (E : En) : List (ClassId × FieldType) := [(eA E 0, .int), (eA E 1, .long), (eA E 2, .boolean), (eA E 3, .byte), (eA E 4, .object "MaskedThrows$Program"), (eA E 5, .object "MaskedThrows$Fiber"), (eA E 6, .object "MaskedThrows$Body")]
def tyO (t : Nat) : FieldType := match t with
  | 0 => .int
  | 1 => .long
  | 2 => .boolean
  | 3 => .byte
  | 4 => .object "MaskedThrows$Program"
  | 5 => .object "MaskedThrows$Fiber"
  | _ => .object "MaskedThrows$Body"
theorem tyl_get (E : En) {t : Nat} (h : t < 7) : (tyl E)[t]? = some (eA E t, tyO t) := by
  match t, h with
  | 0, _ => rfl
  | 1, _ => rfl
  | 2, _ => rfl
  | 3, _ => rfl
  | 4, _ => rfl
  | 5, _ => rfl
  | 6, _ => rfl
def nsw : List Cond := tables_1.filter (fun w => match w with | .methodLinkNest .. => true | _ => false)
def eNew (E : En) (q : Nat) : Prop := eS E ≤ q
def sLen : List Nat := [114, 11]
def sTx (i : Nat) : String := if i = 0 then "note  if    else  while take  to    put   in    throw send  mask  hard  open  try   catch first use   last  within" else "=;(){}<#+-*"
def sByt : List (List Int32) := [(sTx 0).toList.map (fun ch => Int32.ofNat ch.toNat), (sTx 1).toList.map (fun ch => Int32.ofNat ch.toNat)]
/-- what stays true of the tables, the texts, the script -/
def eF (E : En) (U : State) : Prop := va_K (eD E) classes (tyl E) U ∧ (∀ w ∈ nsw, va_Nw w U) ∧
  (vk_R "MaskedThrows$Tokens" 54 (sTx 0) (ea E 1) U ∧ vk_R "MaskedThrows$Tokens" 62 (sTx 1) (ea E 2) U) ∧
  (∃ adV : Nat → Nat, vk_S 2 sLen sByt (fun i => ea E (i + 1)) adV (eNew E) U (eG E)) ∧ va_Z "java/lang/String" "COMPACT_STRINGS" "Z" (.int 1) (eNew E) U (eG E) ∧
  va_X (ea E 0) (eL E) (eX E) U (eG E) ∧ (va_AO "MaskedThrows$Program" U ∧ va_AO "MaskedThrows$Fiber" U ∧ va_AO "MaskedThrows$Body" U)
theorem eF_warm {E : En} {s U : State} (hW : s.WarmedH U.vm) (h : eF E s) : eF E U := by
  obtain ⟨h1, h2, ⟨h3, h4⟩, ⟨adV, h5⟩, h6, h7, h8, h9, h10⟩ := h
  refine ⟨va_K.moved hW.alike h1, fun w hw => ?_, ⟨vk_R.warm hW h3, vk_R.warm hW h4⟩, ⟨adV, vk_S.moved hW.alike h5⟩, va_Z.moved hW.alike h6, va_X.moved hW.alike h7, va_AO.moved hW.alike h8, va_AO.moved hW.alike h9, va_AO.moved hW.alike h10⟩
  have hn := (List.mem_filter.mp hw).2
  cases w <;> first | exact va_Nw.warmM hW (h2 _ hw) | cases hn
theorem eF_same {E : En} {s U : State} (hv : U.vm = s.vm) (h : eF E s) : eF E U := by
  have hA : s.vm.Alike U.vm := by rw [hv]; exact Vm.Alike.refl _
  obtain ⟨h1, h2, ⟨h3, h4⟩, ⟨adV, h5⟩, h6, h7, h8, h9, h10⟩ := h
  refine ⟨va_K.moved hA h1, fun w hw => ?_, ⟨vk_R.same hv h3, vk_R.same hv h4⟩, ⟨adV, vk_S.moved hA h5⟩, va_Z.moved hA h6, va_X.moved hA h7, va_AO.moved hA h8, va_AO.moved hA h9, va_AO.moved hA h10⟩
  have hn := (List.mem_filter.mp hw).2
  cases w <;> first | exact va_Nw.same rfl hv.symm (h2 _ hw) | cases hn
/-- the cells that were made, as the kit's list -/
def wl (E : En) (M : Me) (top : Nat) : va_W := (List.range (top - 3)).map (fun i => (ea E (i + 3), tc (eA E) (ea E) (M (i + 3))))
theorem wl_get {E : En} {M : Me} {top a : Nat} (h1 : 3 ≤ a) (h2 : a < top) : (wl E M top)[a - 3]? = some (ea E a, tc (eA E) (ea E) (M a)) := by
  have : a - 3 < top - 3 := by omega
  simp [wl, List.getElem?_map, List.getElem?_range this, Nat.sub_add_cancel h1]
theorem wl_at {E : En} {M : Me} {top k : Nat} {q : Nat × va_E} (h : (wl E M top)[k]? = some q) : k + 3 < top ∧ q = (ea E (k + 3), tc (eA E) (ea E) (M (k + 3))) := by
  unfold wl at h
  rw [List.getElem?_map] at h
  by_cases hk : k < top - 3
  · rw [List.getElem?_range hk] at h
    exact ⟨by omega, (Option.some.inj h).symm⟩
  · rw [List.getElem?_eq_none (by simpa using hk)] at h
    cases h
theorem wl_D {E : En} (hE : eOK E) (M : Me) (top : Nat) : va_D (eNew E) (wl E M top) := by
  refine ⟨fun i j p q hi hj hpq => ?_, fun k q hk => ?_⟩
  · obtain ⟨-, rfl⟩ := wl_at hi
    obtain ⟨-, rfl⟩ := wl_at hj
    have h1 := hE.1 (i + 3) (by omega)
    have h2 := hE.1 (j + 3) (by omega)
    dsimp only at hpq
    omega
  · obtain ⟨-, rfl⟩ := wl_at hk
    have h1 := hE.1 (k + 3) (by omega)
    show eS E ≤ ea E (k + 3)
    omega
theorem wl_set {E : En} {M : Me} {top a : Nat} (h1 : 3 ≤ a) {c : Ce} {e : va_E} (he : e = tc (eA E) (ea E) c) : (wl E M top).set (a - 3) (ea E a, e) = wl E (va_up M a c) top := by
  subst he
  apply List.ext_getElem?
  intro k
  by_cases hk : k = a - 3
  · subst hk
    by_cases hl : a < top
    · rw [wl_get h1 hl, List.getElem?_set_self (by simp [wl]; omega), va_up_self]
    · rw [List.getElem?_eq_none (by simp [wl]; omega), List.getElem?_eq_none (by simp [wl]; omega)]
  · rw [List.getElem?_set_ne (fun h => hk h.symm)]
    by_cases hl : k + 3 < top
    · have e1 := wl_get (E := E) (M := M) (a := k + 3) (by omega) hl
      have e2 := wl_get (E := E) (M := va_up M a c) (a := k + 3) (by omega) hl
      rw [Nat.add_sub_cancel] at e1 e2
      rw [e1, e2, va_up_ne _ _ (by omega)]
    · rw [List.getElem?_eq_none (by simp [wl]; omega), List.getElem?_eq_none (by simp [wl]; omega)]
def hp (E : En) (M : Me) (top : Nat) (H : Heap) : Prop := va_P (eD E) classes (wl E M top) H ∧ (3 ≤ top ∧ H.size + 3 = eS E + top) ∧ ∀ q, q < eS E → H[q]? = (eG E)[q]?
theorem hp_S {E : En} (hE : eOK E) {M : Me} {top : Nat} {H : Heap} (h : hp E M top H) {locs : List Loc} (hl : ∀ q ∈ locs, eS E ≤ q.base) : va_S (eNew E) (eG E) H locs :=
  ⟨by rw [hE.2.2]; have := h.2.1; omega, fun q h1 _ => h.2.2 q (by rw [← hE.2.2]; exact h1), hl⟩
/-- out of a row that writes -/
theorem hp_set {E : En} (hE : eOK E) {M : Me} {top a : Nat} {H H1 : Heap} {locs locs1 : List Loc} {e : va_E} {c : Ce} (h1 : 3 ≤ a) (h2 : a < top) (h : hp E M top H) (he : e = tc (eA E) (ea E) c) (hP : va_P (eD E) classes ((wl E M top).set (a - 3) (ea E a, e)) H1) (hS : va_S (eNew E) (eG E) H1 locs1) (hz : H1.size = H.size) : hp E (va_up M a c) top H1 ∧ ∀ q ∈ locs1, eS E ≤ q.base := by
  rw [wl_set h1 he] at hP
  exact ⟨⟨hP, ⟨h.2.1.1, by rw [hz]; exact h.2.1.2⟩, fun q hq => hS.2.1 q (by rw [hE.2.2]; exact hq) (fun z => by have z1 : eS E ≤ q := z; omega)⟩, hS.2.2⟩
theorem tv_cat (ad : Nat → Nat) (v : Value) : (tv ad v).category = v.category := by cases v <;> rfl
def tvp (ad : Nat → Nat) (q : Nat × Value) : Nat × Value := (q.1, tv ad q.2)
def gl (lv : List (Nat × Value)) (i : Nat) : Option Value := match lv with
  | [] => none
  | q :: l => if q.1 = i then some q.2 else gl l i
theorem gl_mem {lv : List (Nat × Value)} {i : Nat} {v : Value} (h : gl lv i = some v) : (i, v) ∈ lv := by
  induction lv with
  | nil => cases h
  | cons q l ih =>
    unfold gl at h
    by_cases hq : q.1 = i
    · rw [if_pos hq] at h
      have : q = (i, v) := Prod.ext hq (Option.some.inj h)
      rw [this]; exact List.mem_cons_self
    · rw [if_neg hq] at h
      exact List.mem_cons_of_mem _ (ih h)
theorem lh_at {ad : Nat → Nat} {ls : Array Slot} {nL : Nat} {lv : List (Nat × Value)} (h : lv_has ls nL (lv.map (tvp ad))) {i : Nat} {v : Value} (hk : gl lv i = some v) : ls[i]? = some (.val (tv ad v)) :=
  h.2.2 (i, tv ad v) (List.mem_map.mpr ⟨(i, v), gl_mem hk, rfl⟩)
/-- a store of one word, of two words -/
def st1 (lv : List (Nat × Value)) (i : Nat) (v : Value) : List (Nat × Value) := (i, v) :: lv.filter (fun q => !(q.1 == i) && !(q.1 + 1 == i && q.2.category == 2))
def st2 (lv : List (Nat × Value)) (i : Nat) (v : Value) : List (Nat × Value) := (i, v) :: lv.filter (fun q => !(q.1 == i) && (!(q.1 == i + 1) && !(q.1 + 1 == i && q.2.category == 2)))
theorem st1_map (ad : Nat → Nat) (lv : List (Nat × Value)) (i : Nat) (v : Value) : (i, tv ad v) :: (lv.map (tvp ad)).filter (fun q => !(q.1 == i) && !(q.1 + 1 == i && q.2.category == 2)) = (st1 lv i v).map (tvp ad) := by
  rw [st1, List.map_cons, List.filter_map]
  congr 2
  apply List.filter_congr
  intro q _
  simp only [Function.comp, tvp, tv_cat]
theorem st2_map (ad : Nat → Nat) (lv : List (Nat × Value)) (i : Nat) (v : Value) : (i, tv ad v) :: (lv.map (tvp ad)).filter (fun q => !(q.1 == i) && (!(q.1 == i + 1) && !(q.1 + 1 == i && q.2.category == 2))) = (st2 lv i v).map (tvp ad) := by
  rw [st2, List.map_cons, List.filter_map]
  congr 2
  apply List.filter_congr
  intro q _
  simp only [Function.comp, tvp, tv_cat]
def Cx (E : En) (j : Nat) (p : Program) (s : State) (m : MethodId) (args : Array Value) (meth : Method) (c : Code) : Prop :=
  eOK E ∧ p.tables.exec = Jvm.exec ∧ c.code = mB j ∧ meth.sig.returnType = mR j ∧ c.maxLocals = mL j ∧ s.vm.findClass (mY j).cls = some m.cls ∧ (∀ w ∈ gw, w.before args s = true) ∧ meth.locks = false ∧ ((mY j).name = "<init>" → meth.name = "<init>") ∧ eF E s ∧ eS E ≤ s.heap.size
abbrev Zt : Type := En → Array Value → State → List Frame → State → Prop
/-- at pc of method j, with locals lv, stack st, memory M: the machine comes to Z -/
def Wp (R : Room) (j : Nat) (Z : Zt) (k n pc : Nat) (lv : List (Nat × Value)) (st : List Value) (M : Me) (top : Nat) : Prop :=
  ∀ (l : Launch) (E : En) (p : Program) (e : Env) (s : State) (m : MethodId) (args : Array Value) (below : List Frame) (meth : Method) (c : Code), Cx E j p s m args meth c →
    ∀ (H : Heap) (locs : List Loc), (∀ q ∈ locs, eS E ≤ q.base) → hp E M top H → ∀ ls : Array Slot, lv_has ls (mL j) (lv.map (tvp (ea E))) →
      W p l e R s m args below meth c H locs k n (Z E args s below) (F0 m pc ls (st.map (tv (ea E))))
def cPc (E : En) (av : List Value) (M : Me) (top : Nat) : Array Value → State → Prop := fun v U => v = (av.map (tv (ea E))).toArray ∧ hp E M top U.heap ∧ eF E U
abbrev Po : Type := Option Value → Me → Nat → Prop
def cQc (E : En) (post : Po) : Array Value → State → Outcome → State → Prop := fun _ _ oc t => ∃ (r : Option Value) (M1 : Me) (top1 : Nat), oc = .returned (r.map (tv (ea E))) ∧ post r M1 top1 ∧ hp E M1 top1 t.heap
abbrev rmd (d mc ms : Nat) : Room := { frames := d, cells := mc, slots := ms, locals := 40 * d }
/-- method j with these arguments in memory M: it returns, and post -/
def Ct (d mc ms j : Nat) (av : List Value) (M : Me) (top : Nat) (post : Po) : Prop :=
  ∀ (l : Launch) (E : En), eOK E → Met l (mY j) (mW j) (rmd d mc ms) (cPc E av M top) (cQc E post) mc ms (eNew E)
def mZ (post : Po) (mc ms : Nat) : Zt := fun E args s below => MQ below (cQc E post) args s mc ms (eNew E)
/-- a method's contract, out of its walk -/
theorem ct_of {d mc ms j : Nat} {av : List Value} {M : Me} {top : Nat} {post : Po} (hy : plainName (mY j).cls = true) (hl : (lg_sl av).length ≤ mL j) (h : Wp (rmd d mc ms) j (mZ post mc ms) 0 0 0 (lv_args 0 av) [] M top) : Ct d mc ms j av M top post := by
  intro l E hE
  refine Met.ofW (cc := mB j) (maxL := mL j) (ret := mR j) hy rfl ?_
  intro p e s m args below meth c s₁ B hml hv
  obtain ⟨rfl, hH, hF⟩ := hv
  have hts := atoms_spec (ws := mW j) B.pre
  have hc : Cx E j p s m (av.map (tv (ea E))).toArray meth c := ⟨hE, B.exec, B.bytes, B.returns, hml, findClass_of_methodNamed B.named, fun w hw => hts w (List.mem_cons_of_mem _ hw), B.notSynchronized, fun hn => (name_of_methodNamed B.named B.method).1.trans hn, hF, by have := hH.2.1; omega⟩
  have hcat : ∀ vs : List Value, (lg_sl (vs.map (tv (ea E)))).length = (lg_sl vs).length := by
    intro vs
    induction vs with
    | nil => rfl
    | cons v vs ih =>
      simp only [lg_sl, List.map_cons, List.flatMap_cons, List.length_append] at ih ⊢
      rw [ih, tv_cat]
      by_cases hv : v.category = 2 <;> simp [hv]
  have hlv := lv_entry (av.map (tv (ea E))) (n := mL j) (by rw [hcat]; exact hl)
  rw [lg_entry_eq]
  generalize (lg_sl (av.map (tv (ea E))) ++ List.replicate (mL j - (lg_sl (av.map (tv (ea E)))).length) Slot.unset).toArray = ls at hlv ⊢
  have hma : ∀ (vs : List Value) (i : Nat), lv_args i (vs.map (tv (ea E))) = (lv_args i vs).map (tvp (ea E)) := by
    intro vs
    induction vs with
    | nil => intro i; rfl
    | cons v vs ih =>
      intro i
      simp only [List.map_cons, lv_args, tv_cat, ih, tvp]
  rw [hma] at hlv
  exact h l E p e s m _ below meth c hc s.heap [] (fun q hq => by cases hq) hH ls hlv
end
section
/-! a row an instruction -/
section XR
variable {R : Room} {j : Nat} {Z : Zt} {k n pc : Nat} {lv : List (Nat × Value)} {st : List Value} {M : Me} {top : Nat}
theorem x_iconst {i : Int} {v : Int32} (hd : decode (mB j) pc = .ok (.iconst i, 1)) (hv0 : Int32.ofInt i = v) (kk : Wp R j Z k n (pc + 1) lv (.int v :: st) M top) : Wp R j Z k n pc lv st M top := by
  intro l E p e s m args below meth c C H locs hl hH ls hv
  exact lv_iconst C.2.1 C.2.2.1 hd hv0 (kk l E p e s m args below meth c C H locs hl hH ls hv)
theorem x_bipush {i : Int} {v : Int32} (hd : decode (mB j) pc = .ok (.bipush i, 2)) (hv0 : (Int8.ofInt i).toInt32 = v) (kk : Wp R j Z k n (pc + 2) lv (.int v :: st) M top) : Wp R j Z k n pc lv st M top := by
  intro l E p e s m args below meth c C H locs hl hH ls hv
  exact lv_bipush C.2.1 C.2.2.1 hd hv0 (kk l E p e s m args below meth c C H locs hl hH ls hv)
theorem x_sipush {i : Int} {v : Int32} (hd : decode (mB j) pc = .ok (.sipush i, 3)) (hv0 : (Int16.ofInt i).toInt32 = v) (kk : Wp R j Z k n (pc + 3) lv (.int v :: st) M top) : Wp R j Z k n pc lv st M top := by
  intro l E p e s m args below meth c C H locs hl hH ls hv
  exact lv_sipush C.2.1 C.2.2.1 hd hv0 (kk l E p e s m args below meth c C H locs hl hH ls hv)
theorem x_lconst {i : Fin 2} {v : Int64} (hd : decode (mB j) pc = .ok (.lconst i, 1)) (hv0 : Int64.ofNat (i : Nat) = v) (kk : Wp R j Z k n (pc + 1) lv (.long v :: st) M top) : Wp R j Z k n pc lv st M top := by
  intro l E p e s m args below meth c C H locs hl hH ls hv
  exact lv_lconst C.2.1 C.2.2.1 hd hv0 (kk l E p e s m args below meth c C H locs hl hH ls hv)
theorem x_iload_n {i : Fin 4} {v : Int32} (hd : decode (mB j) pc = .ok (.iload_n i, 1)) (hg : gl lv (i : Nat) = some (.int v)) (kk : Wp R j Z k n (pc + 1) lv (.int v :: st) M top) : Wp R j Z k n pc lv st M top := by
  intro l E p e s m args below meth c C H locs hl hH ls hv
  exact lv_iload_n C.2.1 C.2.2.1 hd rfl (lh_at hv hg) (kk l E p e s m args below meth c C H locs hl hH ls hv)
theorem x_iload {i : Nat} {v : Int32} (hd : decode (mB j) pc = .ok (.iload i, 2)) (hg : gl lv i = some (.int v)) (kk : Wp R j Z k n (pc + 2) lv (.int v :: st) M top) : Wp R j Z k n pc lv st M top := by
  intro l E p e s m args below meth c C H locs hl hH ls hv
  exact lv_iload C.2.1 C.2.2.1 hd (lh_at hv hg) (kk l E p e s m args below meth c C H locs hl hH ls hv)
theorem x_istore_n {i : Fin 4} {v : Int32} (hd : decode (mB j) pc = .ok (.istore_n i, 1)) (hb : (i : Nat) < mL j) (kk : Wp R j Z k n (pc + 1) (st1 lv (i : Nat) (.int v)) st M top) : Wp R j Z k n pc lv (.int v :: st) M top := by
  intro l E p e s m args below meth c C H locs hl hH ls hv
  exact lv_istore_n C.2.1 C.2.2.1 hd rfl hv hb (st1_map _ _ _ (.int v)) (fun ls hv => kk l E p e s m args below meth c C H locs hl hH ls hv)
theorem x_istore {i : Nat} {v : Int32} (hd : decode (mB j) pc = .ok (.istore i, 2)) (hb : (i : Nat) < mL j) (kk : Wp R j Z k n (pc + 2) (st1 lv i (.int v)) st M top) : Wp R j Z k n pc lv (.int v :: st) M top := by
  intro l E p e s m args below meth c C H locs hl hH ls hv
  exact lv_istore C.2.1 C.2.2.1 hd hv hb (st1_map _ _ _ (.int v)) (fun ls hv => kk l E p e s m args below meth c C H locs hl hH ls hv)
theorem x_lload_n {i : Fin 4} {v : Int64} (hd : decode (mB j) pc = .ok (.lload_n i, 1)) (hg : gl lv (i : Nat) = some (.long v)) (kk : Wp R j Z k n (pc + 1) lv (.long v :: st) M top) : Wp R j Z k n pc lv st M top := by
  intro l E p e s m args below meth c C H locs hl hH ls hv
  exact lv_lload_n C.2.1 C.2.2.1 hd rfl (lh_at hv hg) (kk l E p e s m args below meth c C H locs hl hH ls hv)
theorem x_lload {i : Nat} {v : Int64} (hd : decode (mB j) pc = .ok (.lload i, 2)) (hg : gl lv i = some (.long v)) (kk : Wp R j Z k n (pc + 2) lv (.long v :: st) M top) : Wp R j Z k n pc lv st M top := by
  intro l E p e s m args below meth c C H locs hl hH ls hv
  exact lv_lload C.2.1 C.2.2.1 hd (lh_at hv hg) (kk l E p e s m args below meth c C H locs hl hH ls hv)
theorem x_lstore_n {i : Fin 4} {v : Int64} (hd : decode (mB j) pc = .ok (.lstore_n i, 1)) (hb : (i : Nat) + 1 < mL j) (kk : Wp R j Z k n (pc + 1) (st2 lv (i : Nat) (.long v)) st M top) : Wp R j Z k n pc lv (.long v :: st) M top := by
  intro l E p e s m args below meth c C H locs hl hH ls hv
  exact lv_lstore_n C.2.1 C.2.2.1 hd rfl hv hb (st2_map _ _ _ (.long v)) (fun ls hv => kk l E p e s m args below meth c C H locs hl hH ls hv)
theorem x_lstore {i : Nat} {v : Int64} (hd : decode (mB j) pc = .ok (.lstore i, 2)) (hb : (i : Nat) + 1 < mL j) (kk : Wp R j Z k n (pc + 2) (st2 lv i (.long v)) st M top) : Wp R j Z k n pc lv (.long v :: st) M top := by
  intro l E p e s m args below meth c C H locs hl hH ls hv
  exact lv_lstore C.2.1 C.2.2.1 hd hv hb (st2_map _ _ _ (.long v)) (fun ls hv => kk l E p e s m args below meth c C H locs hl hH ls hv)
theorem x_aload_n {i : Fin 4} {v : Nat} (hd : decode (mB j) pc = .ok (.aload_n i, 1)) (hg : gl lv (i : Nat) = some (.ref v)) (kk : Wp R j Z k n (pc + 1) lv (.ref v :: st) M top) : Wp R j Z k n pc lv st M top := by
  intro l E p e s m args below meth c C H locs hl hH ls hv
  exact lv_aload_n C.2.1 C.2.2.1 hd rfl (lh_at hv hg) (kk l E p e s m args below meth c C H locs hl hH ls hv)
theorem x_aload {i : Nat} {v : Nat} (hd : decode (mB j) pc = .ok (.aload i, 2)) (hg : gl lv i = some (.ref v)) (kk : Wp R j Z k n (pc + 2) lv (.ref v :: st) M top) : Wp R j Z k n pc lv st M top := by
  intro l E p e s m args below meth c C H locs hl hH ls hv
  exact lv_aload C.2.1 C.2.2.1 hd (lh_at hv hg) (kk l E p e s m args below meth c C H locs hl hH ls hv)
theorem x_astore_n {i : Fin 4} {v : Nat} (hd : decode (mB j) pc = .ok (.astore_n i, 1)) (hb : (i : Nat) < mL j) (kk : Wp R j Z k n (pc + 1) (st1 lv (i : Nat) (.ref v)) st M top) : Wp R j Z k n pc lv (.ref v :: st) M top := by
  intro l E p e s m args below meth c C H locs hl hH ls hv
  exact lv_astore_n C.2.1 C.2.2.1 hd rfl hv hb (st1_map _ _ _ (.ref v)) (fun ls hv => kk l E p e s m args below meth c C H locs hl hH ls hv)
theorem x_astore {i : Nat} {v : Nat} (hd : decode (mB j) pc = .ok (.astore i, 2)) (hb : (i : Nat) < mL j) (kk : Wp R j Z k n (pc + 2) (st1 lv i (.ref v)) st M top) : Wp R j Z k n pc lv (.ref v :: st) M top := by
  intro l E p e s m args below meth c C H locs hl hH ls hv
  exact lv_astore C.2.1 C.2.2.1 hd hv hb (st1_map _ _ _ (.ref v)) (fun ls hv => kk l E p e s m args below meth c C H locs hl hH ls hv)
theorem x_iinc {i : Nat} {z : Int} {v w : Int32} (hd : decode (mB j) pc = .ok (.iinc i z, 3)) (hb : i < mL j) (hg : gl lv i = some (.int v)) (hw : v + Int32.ofInt z = w) (kk : Wp R j Z k n (pc + 3) (st1 lv i (.int w)) st M top) : Wp R j Z k n pc lv st M top := by
  intro l E p e s m args below meth c C H locs hl hH ls hv
  obtain ⟨q, hq⟩ := List.getElem?_of_mem (List.mem_map.mpr ⟨(i, Value.int v), gl_mem hg, rfl⟩ : tvp (ea E) (i, .int v) ∈ lv.map (tvp (ea E)))
  exact lv_iinc C.2.1 C.2.2.1 hd hv (k := q) hq hw hb (st1_map _ _ _ (.int w)) (fun ls hv => kk l E p e s m args below meth c C H locs hl hH ls hv)
theorem x_iadd {x y : Int32} (hd : decode (mB j) pc = .ok (.iadd, 1))  (kk : Wp R j Z k n (pc + 1) lv (.int (x + y) :: st) M top) : Wp R j Z k n pc lv (.int y :: .int x :: st) M top := by
  intro l E p e s m args below meth c C H locs hl hH ls hv
  exact lv_iadd C.2.1 C.2.2.1 hd  (kk l E p e s m args below meth c C H locs hl hH ls hv)
theorem x_ladd {x y : Int64} (hd : decode (mB j) pc = .ok (.ladd, 1))  (kk : Wp R j Z k n (pc + 1) lv (.long (x + y) :: st) M top) : Wp R j Z k n pc lv (.long y :: .long x :: st) M top := by
  intro l E p e s m args below meth c C H locs hl hH ls hv
  exact lv_ladd C.2.1 C.2.2.1 hd  (kk l E p e s m args below meth c C H locs hl hH ls hv)
theorem x_isub {x y : Int32} (hd : decode (mB j) pc = .ok (.isub, 1))  (kk : Wp R j Z k n (pc + 1) lv (.int (x - y) :: st) M top) : Wp R j Z k n pc lv (.int y :: .int x :: st) M top := by
  intro l E p e s m args below meth c C H locs hl hH ls hv
  exact lv_isub C.2.1 C.2.2.1 hd  (kk l E p e s m args below meth c C H locs hl hH ls hv)
theorem x_lsub {x y : Int64} (hd : decode (mB j) pc = .ok (.lsub, 1))  (kk : Wp R j Z k n (pc + 1) lv (.long (x - y) :: st) M top) : Wp R j Z k n pc lv (.long y :: .long x :: st) M top := by
  intro l E p e s m args below meth c C H locs hl hH ls hv
  exact lv_lsub C.2.1 C.2.2.1 hd  (kk l E p e s m args below meth c C H locs hl hH ls hv)
theorem x_imul {x y : Int32} (hd : decode (mB j) pc = .ok (.imul, 1))  (kk : Wp R j Z k n (pc + 1) lv (.int (x * y) :: st) M top) : Wp R j Z k n pc lv (.int y :: .int x :: st) M top := by
  intro l E p e s m args below meth c C H locs hl hH ls hv
  exact lv_imul C.2.1 C.2.2.1 hd  (kk l E p e s m args below meth c C H locs hl hH ls hv)
theorem x_lmul {x y : Int64} (hd : decode (mB j) pc = .ok (.lmul, 1))  (kk : Wp R j Z k n (pc + 1) lv (.long (x * y) :: st) M top) : Wp R j Z k n pc lv (.long y :: .long x :: st) M top := by
  intro l E p e s m args below meth c C H locs hl hH ls hv
  exact lv_lmul C.2.1 C.2.2.1 hd  (kk l E p e s m args below meth c C H locs hl hH ls hv)
theorem x_iand {x y : Int32} (hd : decode (mB j) pc = .ok (.iand, 1))  (kk : Wp R j Z k n (pc + 1) lv (.int (x &&& y) :: st) M top) : Wp R j Z k n pc lv (.int y :: .int x :: st) M top := by
  intro l E p e s m args below meth c C H locs hl hH ls hv
  exact lv_iand C.2.1 C.2.2.1 hd  (kk l E p e s m args below meth c C H locs hl hH ls hv)
theorem x_land {x y : Int64} (hd : decode (mB j) pc = .ok (.land, 1))  (kk : Wp R j Z k n (pc + 1) lv (.long (x &&& y) :: st) M top) : Wp R j Z k n pc lv (.long y :: .long x :: st) M top := by
  intro l E p e s m args below meth c C H locs hl hH ls hv
  exact lv_land C.2.1 C.2.2.1 hd  (kk l E p e s m args below meth c C H locs hl hH ls hv)
theorem x_lor {x y : Int64} (hd : decode (mB j) pc = .ok (.lor, 1))  (kk : Wp R j Z k n (pc + 1) lv (.long (x ||| y) :: st) M top) : Wp R j Z k n pc lv (.long y :: .long x :: st) M top := by
  intro l E p e s m args below meth c C H locs hl hH ls hv
  exact lv_lor C.2.1 C.2.2.1 hd  (kk l E p e s m args below meth c C H locs hl hH ls hv)
theorem x_idiv {x y : Int32} (hd : decode (mB j) pc = .ok (.idiv, 1)) (hz : ¬ y = 0) (kk : Wp R j Z k n (pc + 1) lv (.int (x / y) :: st) M top) : Wp R j Z k n pc lv (.int y :: .int x :: st) M top := by
  intro l E p e s m args below meth c C H locs hl hH ls hv
  exact lv_idiv C.2.1 C.2.2.1 hd hz (kk l E p e s m args below meth c C H locs hl hH ls hv)
theorem x_irem {x y : Int32} (hd : decode (mB j) pc = .ok (.irem, 1)) (hz : ¬ y = 0) (kk : Wp R j Z k n (pc + 1) lv (.int (x - x / y * y) :: st) M top) : Wp R j Z k n pc lv (.int y :: .int x :: st) M top := by
  intro l E p e s m args below meth c C H locs hl hH ls hv
  exact lv_irem C.2.1 C.2.2.1 hd hz (kk l E p e s m args below meth c C H locs hl hH ls hv)
theorem x_ishl {x y : Int32} (hd : decode (mB j) pc = .ok (.ishl, 1))  (kk : Wp R j Z k n (pc + 1) lv (.int (x <<< (y &&& 31)) :: st) M top) : Wp R j Z k n pc lv (.int y :: .int x :: st) M top := by
  intro l E p e s m args below meth c C H locs hl hH ls hv
  exact lv_ishl C.2.1 C.2.2.1 hd  (kk l E p e s m args below meth c C H locs hl hH ls hv)
theorem x_ishr {x y : Int32} (hd : decode (mB j) pc = .ok (.ishr, 1))  (kk : Wp R j Z k n (pc + 1) lv (.int (x >>> (y &&& 31)) :: st) M top) : Wp R j Z k n pc lv (.int y :: .int x :: st) M top := by
  intro l E p e s m args below meth c C H locs hl hH ls hv
  exact lv_ishr C.2.1 C.2.2.1 hd  (kk l E p e s m args below meth c C H locs hl hH ls hv)
theorem x_iushr {x y : Int32} (hd : decode (mB j) pc = .ok (.iushr, 1))  (kk : Wp R j Z k n (pc + 1) lv (.int (x.toUInt32 >>> (y.toUInt32 &&& Int32.toUInt32 31)).toInt32 :: st) M top) : Wp R j Z k n pc lv (.int y :: .int x :: st) M top := by
  intro l E p e s m args below meth c C H locs hl hH ls hv
  exact lv_iushr C.2.1 C.2.2.1 hd rfl (kk l E p e s m args below meth c C H locs hl hH ls hv)
theorem x_lushr {x : Int64} {y : Int32} (hd : decode (mB j) pc = .ok (.lushr, 1))  (kk : Wp R j Z k n (pc + 1) lv (.long (x.toUInt64 >>> (y.toInt64.toUInt64 &&& Int64.toUInt64 63)).toInt64 :: st) M top) : Wp R j Z k n pc lv (.int y :: .long x :: st) M top := by
  intro l E p e s m args below meth c C H locs hl hH ls hv
  exact lv_lushr C.2.1 C.2.2.1 hd rfl (kk l E p e s m args below meth c C H locs hl hH ls hv)
theorem x_lshl {x : Int64} {y : Int32} (hd : decode (mB j) pc = .ok (.lshl, 1))  (kk : Wp R j Z k n (pc + 1) lv (.long (x <<< (y.toInt64 &&& 63)) :: st) M top) : Wp R j Z k n pc lv (.int y :: .long x :: st) M top := by
  intro l E p e s m args below meth c C H locs hl hH ls hv
  exact lv_lshl C.2.1 C.2.2.1 hd rfl (kk l E p e s m args below meth c C H locs hl hH ls hv)
theorem x_lneg {x : Int64} (hd : decode (mB j) pc = .ok (.lneg, 1))  (kk : Wp R j Z k n (pc + 1) lv (.long (-x) :: st) M top) : Wp R j Z k n pc lv (.long x :: st) M top := by
  intro l E p e s m args below meth c C H locs hl hH ls hv
  exact lv_lneg C.2.1 C.2.2.1 hd  (kk l E p e s m args below meth c C H locs hl hH ls hv)
theorem x_i2l {x : Int32} (hd : decode (mB j) pc = .ok (.i2l, 1))  (kk : Wp R j Z k n (pc + 1) lv (.long x.toInt64 :: st) M top) : Wp R j Z k n pc lv (.int x :: st) M top := by
  intro l E p e s m args below meth c C H locs hl hH ls hv
  exact lv_i2l C.2.1 C.2.2.1 hd rfl (kk l E p e s m args below meth c C H locs hl hH ls hv)
theorem x_l2i {x : Int64} (hd : decode (mB j) pc = .ok (.l2i, 1))  (kk : Wp R j Z k n (pc + 1) lv (.int x.toInt32 :: st) M top) : Wp R j Z k n pc lv (.long x :: st) M top := by
  intro l E p e s m args below meth c C H locs hl hH ls hv
  exact lv_l2i C.2.1 C.2.2.1 hd rfl (kk l E p e s m args below meth c C H locs hl hH ls hv)
theorem x_i2b {x : Int32} (hd : decode (mB j) pc = .ok (.i2b, 1))  (kk : Wp R j Z k n (pc + 1) lv (.int x.toInt8.toInt32 :: st) M top) : Wp R j Z k n pc lv (.int x :: st) M top := by
  intro l E p e s m args below meth c C H locs hl hH ls hv
  exact lv_i2b C.2.1 C.2.2.1 hd rfl (kk l E p e s m args below meth c C H locs hl hH ls hv)
theorem x_lcmp {x y : Int64} (hd : decode (mB j) pc = .ok (.lcmp, 1))  (kk : Wp R j Z k n (pc + 1) lv (.int (lg_cmp x y) :: st) M top) : Wp R j Z k n pc lv (.long y :: .long x :: st) M top := by
  intro l E p e s m args below meth c C H locs hl hH ls hv
  exact W.lcmp C.2.1 C.2.2.1 hd  (kk l E p e s m args below meth c C H locs hl hH ls hv)
theorem x_dup {v : Value} (hd : decode (mB j) pc = .ok (.dup, 1)) (hc : v.category = 1) (kk : Wp R j Z k n (pc + 1) lv (v :: v :: st) M top) : Wp R j Z k n pc lv (v :: st) M top := by
  intro l E p e s m args below meth c C H locs hl hH ls hv
  exact lv_dup C.2.1 C.2.2.1 hd ((tv_cat _ _).trans hc) (kk l E p e s m args below meth c C H locs hl hH ls hv)
theorem x_pop {v : Value} (hd : decode (mB j) pc = .ok (.pop, 1)) (hc : v.category = 1) (kk : Wp R j Z k n (pc + 1) lv st M top) : Wp R j Z k n pc lv (v :: st) M top := by
  intro l E p e s m args below meth c C H locs hl hH ls hv
  exact lv_pop C.2.1 C.2.2.1 hd ((tv_cat _ _).trans hc) (kk l E p e s m args below meth c C H locs hl hH ls hv)
theorem x_dup2 {v w : Value} (hd : decode (mB j) pc = .ok (.dup2, 1)) (hc : v.category = 1) (hc2 : w.category = 1) (kk : Wp R j Z k n (pc + 1) lv (v :: w :: v :: w :: st) M top) : Wp R j Z k n pc lv (v :: w :: st) M top := by
  intro l E p e s m args below meth c C H locs hl hH ls hv
  exact lv_dup2_11 C.2.1 C.2.2.1 hd ((tv_cat _ _).trans hc) ((tv_cat _ _).trans hc2) (kk l E p e s m args below meth c C H locs hl hH ls hv)
theorem x_if_eq {x : Int32} {off : Int} {tgt : Nat} (hd : decode (mB j) pc = .ok (.ifCond .eq off, 3)) (ht : (pc : Int) + off = (tgt : Int)) (kt : x = 0 → Wp R j Z k n tgt lv st M top) (kf : ¬ x = 0 → Wp R j Z k n (pc + 3) lv st M top) : Wp R j Z k n pc lv (.int x :: st) M top := by
  intro l E p e s m args below meth c C H locs hl hH ls hv
  exact lv_if_eq C.2.1 C.2.2.1 hd ht (fun h => kt h l E p e s m args below meth c C H locs hl hH ls hv) (fun h => kf h l E p e s m args below meth c C H locs hl hH ls hv)
theorem x_icmp_eq {x y : Int32} {off : Int} {tgt : Nat} (hd : decode (mB j) pc = .ok (.if_icmp .eq off, 3)) (ht : (pc : Int) + off = (tgt : Int)) (kt : x = y → Wp R j Z k n tgt lv st M top) (kf : ¬ x = y → Wp R j Z k n (pc + 3) lv st M top) : Wp R j Z k n pc lv (.int y :: .int x :: st) M top := by
  intro l E p e s m args below meth c C H locs hl hH ls hv
  exact lv_icmp_eq C.2.1 C.2.2.1 hd ht (fun h => kt h l E p e s m args below meth c C H locs hl hH ls hv) (fun h => kf h l E p e s m args below meth c C H locs hl hH ls hv)
theorem x_if_ne {x : Int32} {off : Int} {tgt : Nat} (hd : decode (mB j) pc = .ok (.ifCond .ne off, 3)) (ht : (pc : Int) + off = (tgt : Int)) (kt : ¬ x = 0 → Wp R j Z k n tgt lv st M top) (kf : x = 0 → Wp R j Z k n (pc + 3) lv st M top) : Wp R j Z k n pc lv (.int x :: st) M top := by
  intro l E p e s m args below meth c C H locs hl hH ls hv
  exact lv_if_ne C.2.1 C.2.2.1 hd ht (fun h => kt h l E p e s m args below meth c C H locs hl hH ls hv) (fun h => kf h l E p e s m args below meth c C H locs hl hH ls hv)
theorem x_icmp_ne {x y : Int32} {off : Int} {tgt : Nat} (hd : decode (mB j) pc = .ok (.if_icmp .ne off, 3)) (ht : (pc : Int) + off = (tgt : Int)) (kt : ¬ x = y → Wp R j Z k n tgt lv st M top) (kf : x = y → Wp R j Z k n (pc + 3) lv st M top) : Wp R j Z k n pc lv (.int y :: .int x :: st) M top := by
  intro l E p e s m args below meth c C H locs hl hH ls hv
  exact lv_icmp_ne C.2.1 C.2.2.1 hd ht (fun h => kt h l E p e s m args below meth c C H locs hl hH ls hv) (fun h => kf h l E p e s m args below meth c C H locs hl hH ls hv)
theorem x_if_lt {x : Int32} {off : Int} {tgt : Nat} (hd : decode (mB j) pc = .ok (.ifCond .lt off, 3)) (ht : (pc : Int) + off = (tgt : Int)) (kt : x < 0 → Wp R j Z k n tgt lv st M top) (kf : ¬ x < 0 → Wp R j Z k n (pc + 3) lv st M top) : Wp R j Z k n pc lv (.int x :: st) M top := by
  intro l E p e s m args below meth c C H locs hl hH ls hv
  exact lv_if_lt C.2.1 C.2.2.1 hd ht (fun h => kt h l E p e s m args below meth c C H locs hl hH ls hv) (fun h => kf h l E p e s m args below meth c C H locs hl hH ls hv)
theorem x_icmp_lt {x y : Int32} {off : Int} {tgt : Nat} (hd : decode (mB j) pc = .ok (.if_icmp .lt off, 3)) (ht : (pc : Int) + off = (tgt : Int)) (kt : x < y → Wp R j Z k n tgt lv st M top) (kf : ¬ x < y → Wp R j Z k n (pc + 3) lv st M top) : Wp R j Z k n pc lv (.int y :: .int x :: st) M top := by
  intro l E p e s m args below meth c C H locs hl hH ls hv
  exact lv_icmp_lt C.2.1 C.2.2.1 hd ht (fun h => kt h l E p e s m args below meth c C H locs hl hH ls hv) (fun h => kf h l E p e s m args below meth c C H locs hl hH ls hv)
theorem x_if_ge {x : Int32} {off : Int} {tgt : Nat} (hd : decode (mB j) pc = .ok (.ifCond .ge off, 3)) (ht : (pc : Int) + off = (tgt : Int)) (kt : 0 ≤ x → Wp R j Z k n tgt lv st M top) (kf : ¬ 0 ≤ x → Wp R j Z k n (pc + 3) lv st M top) : Wp R j Z k n pc lv (.int x :: st) M top := by
  intro l E p e s m args below meth c C H locs hl hH ls hv
  exact lv_if_ge C.2.1 C.2.2.1 hd ht (fun h => kt h l E p e s m args below meth c C H locs hl hH ls hv) (fun h => kf h l E p e s m args below meth c C H locs hl hH ls hv)
theorem x_icmp_ge {x y : Int32} {off : Int} {tgt : Nat} (hd : decode (mB j) pc = .ok (.if_icmp .ge off, 3)) (ht : (pc : Int) + off = (tgt : Int)) (kt : y ≤ x → Wp R j Z k n tgt lv st M top) (kf : ¬ y ≤ x → Wp R j Z k n (pc + 3) lv st M top) : Wp R j Z k n pc lv (.int y :: .int x :: st) M top := by
  intro l E p e s m args below meth c C H locs hl hH ls hv
  exact lv_icmp_ge C.2.1 C.2.2.1 hd ht (fun h => kt h l E p e s m args below meth c C H locs hl hH ls hv) (fun h => kf h l E p e s m args below meth c C H locs hl hH ls hv)
theorem x_if_gt {x : Int32} {off : Int} {tgt : Nat} (hd : decode (mB j) pc = .ok (.ifCond .gt off, 3)) (ht : (pc : Int) + off = (tgt : Int)) (kt : 0 < x → Wp R j Z k n tgt lv st M top) (kf : ¬ 0 < x → Wp R j Z k n (pc + 3) lv st M top) : Wp R j Z k n pc lv (.int x :: st) M top := by
  intro l E p e s m args below meth c C H locs hl hH ls hv
  exact lv_if_gt C.2.1 C.2.2.1 hd ht (fun h => kt h l E p e s m args below meth c C H locs hl hH ls hv) (fun h => kf h l E p e s m args below meth c C H locs hl hH ls hv)
theorem x_icmp_gt {x y : Int32} {off : Int} {tgt : Nat} (hd : decode (mB j) pc = .ok (.if_icmp .gt off, 3)) (ht : (pc : Int) + off = (tgt : Int)) (kt : y < x → Wp R j Z k n tgt lv st M top) (kf : ¬ y < x → Wp R j Z k n (pc + 3) lv st M top) : Wp R j Z k n pc lv (.int y :: .int x :: st) M top := by
  intro l E p e s m args below meth c C H locs hl hH ls hv
  exact lv_icmp_gt C.2.1 C.2.2.1 hd ht (fun h => kt h l E p e s m args below meth c C H locs hl hH ls hv) (fun h => kf h l E p e s m args below meth c C H locs hl hH ls hv)
theorem x_if_le {x : Int32} {off : Int} {tgt : Nat} (hd : decode (mB j) pc = .ok (.ifCond .le off, 3)) (ht : (pc : Int) + off = (tgt : Int)) (kt : x ≤ 0 → Wp R j Z k n tgt lv st M top) (kf : ¬ x ≤ 0 → Wp R j Z k n (pc + 3) lv st M top) : Wp R j Z k n pc lv (.int x :: st) M top := by
  intro l E p e s m args below meth c C H locs hl hH ls hv
  exact lv_if_le C.2.1 C.2.2.1 hd ht (fun h => kt h l E p e s m args below meth c C H locs hl hH ls hv) (fun h => kf h l E p e s m args below meth c C H locs hl hH ls hv)
theorem x_icmp_le {x y : Int32} {off : Int} {tgt : Nat} (hd : decode (mB j) pc = .ok (.if_icmp .le off, 3)) (ht : (pc : Int) + off = (tgt : Int)) (kt : x ≤ y → Wp R j Z k n tgt lv st M top) (kf : ¬ x ≤ y → Wp R j Z k n (pc + 3) lv st M top) : Wp R j Z k n pc lv (.int y :: .int x :: st) M top := by
  intro l E p e s m args below meth c C H locs hl hH ls hv
  exact lv_icmp_le C.2.1 C.2.2.1 hd ht (fun h => kt h l E p e s m args below meth c C H locs hl hH ls hv) (fun h => kf h l E p e s m args below meth c C H locs hl hH ls hv)
theorem x_goto {off : Int} {tgt : Nat} (hd : decode (mB j) pc = .ok (.goto off, 3)) (ht : (pc : Int) + off = (tgt : Int)) (kk : Wp R j Z k n tgt lv st M top) : Wp R j Z k n pc lv st M top := by
  intro l E p e s m args below meth c C H locs hl hH ls hv
  exact lv_goto C.2.1 C.2.2.1 hd ht (kk l E p e s m args below meth c C H locs hl hH ls hv)
theorem x_lookup {dflt : Int} {ps : Array (Int × Int)} {len : Nat} {x : Int32} {off : Int} {tgt : Nat} (hd : decode (mB j) pc = .ok (.lookupswitch dflt ps, len)) (hp0 : (ps.toList.zip (ps.toList.drop 1)).all (fun (a, next) => a.1 < next.1) = true) (ho : Op.lookupswitch.offset ps.toList dflt x.toInt = off) (ht : (pc : Int) + off = (tgt : Int)) (kk : Wp R j Z k n tgt lv st M top) : Wp R j Z k n pc lv (.int x :: st) M top := by
  intro l E p e s m args below meth c C H locs hl hH ls hv
  exact lv_lookup C.2.1 C.2.2.1 hd hp0 ho ht (kk l E p e s m args below meth c C H locs hl hH ls hv)
theorem x_tableOut {dflt lo hi : Int} {offs : Array Int} {len : Nat} {x : Int32} {tgt : Nat} (hd : decode (mB j) pc = .ok (.tableswitch dflt lo hi offs, len)) (h0 : x.toInt < lo ∨ hi < x.toInt) (ht : (pc : Int) + dflt = (tgt : Int)) (kk : Wp R j Z k n tgt lv st M top) : Wp R j Z k n pc lv (.int x :: st) M top := by
  intro l E p e s m args below meth c C H locs hl hH ls hv
  exact lv_tableOut C.2.1 C.2.2.1 hd h0 ht (kk l E p e s m args below meth c C H locs hl hH ls hv)
theorem x_tableIn {dflt lo hi : Int} {offs : Array Int} {len : Nat} {x : Int32} {off : Int} {tgt : Nat} (hd : decode (mB j) pc = .ok (.tableswitch dflt lo hi offs, len)) (h1 : ¬ x.toInt < lo) (h2 : ¬ hi < x.toInt) (ho : offs[(x.toInt - lo).toNat]? = some off) (ht : (pc : Int) + off = (tgt : Int)) (kk : Wp R j Z k n tgt lv st M top) : Wp R j Z k n pc lv (.int x :: st) M top := by
  intro l E p e s m args below meth c C H locs hl hH ls hv
  exact lv_tableIn C.2.1 C.2.2.1 hd h1 h2 ho ht (kk l E p e s m args below meth c C H locs hl hH ls hv)
theorem x_ldc {idx : Nat} {v : Int32} (hw : Cond.constant (mY j).cls idx v ∈ gw) (hd : decode (mB j) pc = .ok (.ldc idx, 2)) (kk : Wp R j Z k n (pc + 2) lv (.int v :: st) M top) : Wp R j Z k n pc lv st M top := by
  intro l E p e s m args below meth c C H locs hl hH ls hv
  exact lv_ldc C.2.1 C.2.2.1 C.2.2.2.2.2.1 (C.2.2.2.2.2.2.1 _ hw) hd (kk l E p e s m args below meth c C H locs hl hH ls hv)
theorem x_ldc2 {idx : Nat} {v : Int64} (hw : Cond.constantLong (mY j).cls idx v ∈ gw) (hd : decode (mB j) pc = .ok (.ldc2_w idx, 3)) (kk : Wp R j Z k n (pc + 3) lv (.long v :: st) M top) : Wp R j Z k n pc lv st M top := by
  intro l E p e s m args below meth c C H locs hl hH ls hv
  exact lv_ldc2 C.2.1 C.2.2.1 C.2.2.2.2.2.1 (C.2.2.2.2.2.2.1 _ hw) hd (kk l E p e s m args below meth c C H locs hl hH ls hv)
/-- a class of the list -/
theorem cl_get {ci : Nat} (h : ci < 10) : (classes : List vw_C)[ci]? = some (clS ci, clT ci, clN ci) := by
  match ci, h with
  | 0, _ => rfl
  | 1, _ => rfl
  | 2, _ => rfl
  | 3, _ => rfl
  | 4, _ => rfl
  | 5, _ => rfl
  | 6, _ => rfl
  | 7, _ => rfl
  | 8, _ => rfl
  | 9, _ => rfl
theorem cl_ws {ci : Nat} (h : ci < 10) : ∀ w ∈ u_ws (clS ci) (clT ci) (clN ci), w ∈ gw := by
  match ci, h with
  | 0, _ => exact fW0
  | 1, _ => exact fW1
  | 2, _ => exact fW2
  | 3, _ => exact fW3
  | 4, _ => exact fW4
  | 5, _ => exact fW5
  | 6, _ => exact fW6
  | 7, _ => exact fW7
  | 8, _ => exact fW8
  | 9, _ => exact fW9
theorem cl_ty {ci : Nat} (h : ci < 10) : ∀ k, k < clN ci → parseFieldDescriptor (clT ci k).2.2.1 = some (clY ci k) := by
  match ci, h with
  | 0, _ => exact fO0
  | 1, _ => exact fO1
  | 2, _ => exact fO2
  | 3, _ => exact fO3
  | 4, _ => exact fO4
  | 5, _ => exact fO5
  | 6, _ => exact fO6
  | 7, _ => exact fO7
  | 8, _ => exact fO8
  | 9, _ => exact fO9
theorem cl_nm {ci : Nat} (h : ci < 10) : ∀ a, a < clN ci → ∀ b, b < clN ci → a ≠ b → (clT ci a).2.1 ≠ (clT ci b).2.1 := by
  match ci, h with
  | 0, _ => exact fN0
  | 1, _ => exact fN1
  | 2, _ => exact fN2
  | 3, _ => exact fN3
  | 4, _ => exact fN4
  | 5, _ => exact fN5
  | 6, _ => exact fN6
  | 7, _ => exact fN7
  | 8, _ => exact fN8
  | 9, _ => exact fN9
theorem x_getf {a ci f idx : Nat} {fs : List Value} {v : Value} (hd : decode (mB j) pc = .ok (.getfield idx, 3)) (hw : Cond.fieldLink (mY j).cls idx (clT ci f).1 (clT ci f).2.1 (clT ci f).2.2.1 ∈ gw) (hci : ci < 10) (hf : f < clN ci) (ha : 3 ≤ a ∧ a < top) (hm : M a = .inr (ci, fs)) (hfv : fs[f]? = some v) (kk : Wp R j Z k n (pc + 3) lv (v :: st) M top) : Wp R j Z k n pc lv (.ref a :: st) M top := by
  intro l E p e s m args below meth c C H locs hl hH ls hv
  have hg := wl_get (E := E) (M := M) ha.1 ha.2
  rw [hm] at hg
  exact va_get (D := eD E) (C := clS ci) (T := clT ci) (N := clN ci) C.2.1 C.2.2.1 C.2.2.2.2.2.2.1 (cl_ws hci) C.2.2.2.2.2.1 C.2.2.2.2.2.2.2.2.2.1.1 hH.1 (a - 3) hg (cl_get hci) f hf (C.2.2.2.2.2.2.1 _ hw) (fun _ h9 => h9) (by rw [List.getElem?_map, hfv]; rfl) hd (kk l E p e s m args below meth c C H locs hl hH ls hv)
theorem tv_ref {ty : FieldType} {i q : Nat} (h : narrow ty (.ref i) = .ref i ∧ fits ty (.ref i) = true) : narrow ty (.ref q) = .ref q ∧ fits ty (.ref q) = true := by
  obtain ⟨h1, h2⟩ := h
  cases ty <;> first | exact ⟨rfl, rfl⟩ | (simp [fits] at h2)
theorem tv_fit {ty : FieldType} {v : Value} (ad : Nat → Nat) (h : narrow ty v = v ∧ fits ty v = true) : narrow ty (tv ad v) = tv ad v ∧ fits ty (tv ad v) = true := by
  cases v with
  | ref i => exact tv_ref h
  | _ => exact h
theorem loc_add {E : En} {locs : List Loc} {a i : Nat} (hl : ∀ q ∈ locs, eS E ≤ q.base) (ha : eS E ≤ a) : ∀ q ∈ locs ++ [(⟨a, i⟩ : Loc)], eS E ≤ q.base := by
  intro q hq
  rcases List.mem_append.mp hq with h | h
  · exact hl q h
  · rw [List.mem_singleton.mp h]; exact ha
theorem ea_ge {E : En} (hE : eOK E) {a : Nat} (h : 3 ≤ a) : eS E ≤ ea E a := by have := hE.1 a h; omega
theorem hp_put {E : En} (hE : eOK E) {M : Me} {top a : Nat} {H H1 : Heap} (h1 : 3 ≤ a) (h2 : a < top) (h : hp E M top H) {c : Ce} (he : va_at (eD E) classes (ea E a, tc (eA E) (ea E) c) H1) (z : H1.size = H.size) (oq : ∀ q : Nat, q ≠ ea E a → H1[q]? = H[q]?) : hp E (va_up M a c) top H1 := by
  have hP := h.1.set (wl_D hE M top) (wl_get h1 h2) he oq
  rw [wl_set h1 rfl] at hP
  refine ⟨hP, ⟨h.2.1.1, by rw [z]; exact h.2.1.2⟩, fun q hq => ?_⟩
  rw [oq q (fun e0 => by have := ea_ge hE h1; omega)]
  exact h.2.2 q hq
theorem hp_push {E : En} (hE : eOK E) {M : Me} {top : Nat} {H H1 : Heap} (h : hp E M top H) {c : Ce} (he : va_at (eD E) classes (H.size, tc (eA E) (ea E) c) H1) (z : H1.size = H.size + 1) (oq : ∀ q : Nat, q < H.size → H1[q]? = H[q]?) : hp E (va_up M top c) (top + 1) H1 ∧ ea E top = H.size := by
  have ht := h.2.1
  have e0 : ea E top = H.size := by have := hE.1 top ht.1; omega
  refine ⟨⟨fun q x hx => ?_, ⟨by omega, by omega⟩, fun q hq => ?_⟩, e0⟩
  · obtain ⟨h1, rfl⟩ := wl_at hx
    by_cases hq : q + 3 = top
    · rw [hq, va_up_self, e0]; exact he
    · have h2 := h.1 q _ (by have := wl_get (E := E) (M := M) (top := top) (a := q + 3) (by omega) (by omega); rw [Nat.add_sub_cancel] at this; exact this)
      rw [va_up_ne _ _ hq]
      exact h2.kept (oq _ h2.lt)
  · rw [oq q (by omega)]; exact h.2.2 q hq
theorem x_putf {a ci f idx : Nat} {fs : List Value} {v : Value} (hd : decode (mB j) pc = .ok (.putfield idx, 3)) (hw : Cond.fieldLink (mY j).cls idx (clT ci f).1 (clT ci f).2.1 (clT ci f).2.2.1 ∈ gw) (hci : ci < 10) (hf : f < clN ci) (hfin : (clT ci f).2.2.2 = false) (ha : 3 ≤ a ∧ a < top) (hm : M a = .inr (ci, fs)) (hn : narrow (clY ci f) v = v ∧ fits (clY ci f) v = true) (hlen : f < fs.length) (kk : Wp R j Z k n (pc + 3) lv st (va_up M a (.inr (ci, fs.set f v))) top) : Wp R j Z k n pc lv (v :: .ref a :: st) M top := by
  intro l E p e s m args below meth c C H locs hl hH ls hv
  have hg := wl_get (E := E) (M := M) ha.1 ha.2
  rw [hm] at hg
  have hK := C.2.2.2.2.2.2.2.2.2.1.1
  have hts := C.2.2.2.2.2.2.1
  have hn2 := tv_fit (ea E) hn
  have hap := va_apart (own := (mY j).cls) hts (cl_ws hci) (clY ci) (cl_ty hci) (cl_nm hci) hK (cl_get hci)
  obtain ⟨r, hr1, cell, q1, q2, q3, q4⟩ := hH.1 (a - 3) _ hg
  have hr : r = (clS ci, clT ci, clN ci) := Option.some.inj (hr1.symm.trans (cl_get hci))
  subst hr
  obtain ⟨hSl, hfc, kC, hkC, hkind⟩ := hK.1 ci _ (cl_get hci)
  obtain ⟨cf, kf, fi, f0, hi, hsl⟩ := hSl f hf
  have hlay := hts _ (cl_ws hci _ (u_in_lay hf))
  unfold u_lay at hlay
  rw [if_neg (by rw [hfin]; decide)] at hlay
  have hst := (u_facts hfc hkC (u_lays hts (cl_ws hci) hf) hi).1
  have h6 := u_store hfc hkC hkind hlay hi (cl_ty hci f hf) hn2.1 hn2.2
  refine W.putK C.2.1 C.2.2.1 (f := f0) ⟨C.2.2.2.2.2.1, hts _ hw, ⟨_, _, _, hi⟩, hst⟩ (by rw [q2]; exact h6) q1 q3 (by rw [hsl]; exact k2_hasslot (q4 f hf)) rfl rfl hd fun H1 e1 e2 e3 => ?_
  rw [hsl] at e1
  refine kk l E p e s m args below meth c C H1 _ (loc_add hl (ea_ge C.1 ha.1)) (hp_put C.1 ha.1 ha.2 hH ⟨_, cl_get hci, t_OB.to (V := updV (vp_V (fs.map (tv (ea E)))) f (tv (ea E) v)) ⟨_, e1, q2, q3, t_set q4 hap hf _⟩ (fun z _ => ?_)⟩ e2 e3) ls hv
  rw [vp_updV_set (by simpa using hlen), ← List.map_set]
theorem x_putF {a ci f idx : Nat} {fs : List Value} {v : Value} (hd : decode (mB j) pc = .ok (.putfield idx, 3)) (hw : Cond.fieldLink (mY j).cls idx (clT ci f).1 (clT ci f).2.1 (clT ci f).2.2.1 ∈ gw) (hci : ci < 10) (hf : f < clN ci) (hfin : (clT ci f).2.2.2 = true) (hini : (mY j).name = "<init>") (hdec : (clT ci f).1 = (mY j).cls) (ha : 3 ≤ a ∧ a < top) (hm : M a = .inr (ci, fs)) (hn : narrow (clY ci f) v = v ∧ fits (clY ci f) v = true) (hlen : f < fs.length) (kk : Wp R j Z k n (pc + 3) lv st (va_up M a (.inr (ci, fs.set f v))) top) : Wp R j Z k n pc lv (v :: .ref a :: st) M top := by
  intro l E p e s m args below meth c C H locs hl hH ls hv
  have hg := wl_get (E := E) (M := M) ha.1 ha.2
  rw [hm] at hg
  have hK := C.2.2.2.2.2.2.2.2.2.1.1
  have hts := C.2.2.2.2.2.2.1
  have hown := C.2.2.2.2.2.1
  have hn2 := tv_fit (ea E) hn
  have hap := va_apart (own := (mY j).cls) hts (cl_ws hci) (clY ci) (cl_ty hci) (cl_nm hci) hK (cl_get hci)
  obtain ⟨r, hr1, cell, q1, q2, q3, q4⟩ := hH.1 (a - 3) _ hg
  have hr : r = (clS ci, clT ci, clN ci) := Option.some.inj (hr1.symm.trans (cl_get hci))
  subst hr
  obtain ⟨hSl, hfc, kC, hkC, hkind⟩ := hK.1 ci _ (cl_get hci)
  obtain ⟨cf, kf, fi, f0, hi, hsl⟩ := hSl f hf
  have hlay := hts _ (cl_ws hci _ (u_in_lay hf))
  unfold u_lay at hlay
  rw [if_pos hfin] at hlay
  have hst := (u_facts hfc hkC (u_lays hts (cl_ws hci) hf) hi).1
  have hcf : m.cls = cf := by
    obtain ⟨_, _, c', _, _, _, -, -, hf', -, -, -, hown2, -⟩ := Cond.laysFinal_spec hlay
    have e1 : c' = cf := by have := hi.symm.trans hf'; simp at this; exact this.1.symm
    rw [hdec] at hown2
    rw [← e1]; exact Option.some.inj (hown.symm.trans hown2)
  have h6 := u_fits hfc hkC hkind (Or.inr hlay) hi (cl_ty hci f hf) hn2.1 hn2.2
  refine W.putFinK C.2.1 C.2.2.1 hown (hts _ hw) hi hst hcf (C.2.2.2.2.2.2.2.2.1 hini) (by rw [q2]; exact h6) q1 q3 (by rw [hsl]; exact k2_hasslot (q4 f hf)) rfl rfl hd fun H1 e1 e2 e3 => ?_
  rw [hsl] at e1
  refine kk l E p e s m args below meth c C H1 _ (loc_add hl (ea_ge C.1 ha.1)) (hp_put C.1 ha.1 ha.2 hH ⟨_, cl_get hci, t_OB.to (V := updV (vp_V (fs.map (tv (ea E)))) f (tv (ea E) v)) ⟨_, e1, q2, q3, t_set q4 hap hf _⟩ (fun z _ => ?_)⟩ e2 e3) ls hv
  rw [vp_updV_set (by simpa using hlen), ← List.map_set]
theorem x_iald {a N : Nat} {f : Nat → Int32} {i : Int32} (hd : decode (mB j) pc = .ok (.iaload, 1)) (ha : 3 ≤ a ∧ a < top) (hm : M a = .inl (0, N, .inl f)) (hi : vp_in i N) (kk : Wp R j Z k n (pc + 1) lv (.int (f i.toNatClampNeg) :: st) M top) : Wp R j Z k n pc lv (.int i :: .ref a :: st) M top := by
  intro l E p e s m args below meth c C H locs hl hH ls hv
  have hg := wl_get (E := E) (M := M) ha.1 ha.2
  rw [hm] at hg
  exact va_iald C.2.1 C.2.2.1 C.2.2.2.2.2.2.2.2.2.1.1 hH.1 (a - 3) 0 hg (tyl_get E (by decide)) hi hd (kk l E p e s m args below meth c C H locs hl hH ls hv)
theorem x_lald {a N : Nat} {f : Nat → Int64} {i : Int32} (hd : decode (mB j) pc = .ok (.laload, 1)) (ha : 3 ≤ a ∧ a < top) (hm : M a = .inl (1, N, .inr (.inl f))) (hi : vp_in i N) (kk : Wp R j Z k n (pc + 1) lv (.long (f i.toNatClampNeg) :: st) M top) : Wp R j Z k n pc lv (.int i :: .ref a :: st) M top := by
  intro l E p e s m args below meth c C H locs hl hH ls hv
  have hg := wl_get (E := E) (M := M) ha.1 ha.2
  rw [hm] at hg
  exact va_lald C.2.1 C.2.2.1 C.2.2.2.2.2.2.2.2.2.1.1 hH.1 (a - 3) 1 hg (tyl_get E (by decide)) hi hd (kk l E p e s m args below meth c C H locs hl hH ls hv)
theorem x_zald {a N : Nat} {f : Nat → Int32} {i : Int32} (hd : decode (mB j) pc = .ok (.baload, 1)) (ha : 3 ≤ a ∧ a < top) (hm : M a = .inl (2, N, .inl f)) (hi : vp_in i N) (kk : Wp R j Z k n (pc + 1) lv (.int (f i.toNatClampNeg) :: st) M top) : Wp R j Z k n pc lv (.int i :: .ref a :: st) M top := by
  intro l E p e s m args below meth c C H locs hl hH ls hv
  have hg := wl_get (E := E) (M := M) ha.1 ha.2
  rw [hm] at hg
  exact va_zald C.2.1 C.2.2.1 C.2.2.2.2.2.2.2.2.2.1.1 hH.1 (a - 3) 2 hg (tyl_get E (by decide)) hi hd (kk l E p e s m args below meth c C H locs hl hH ls hv)
theorem x_bald {a N : Nat} {f : Nat → Int32} {i : Int32} (hd : decode (mB j) pc = .ok (.baload, 1)) (ha : 3 ≤ a ∧ a < top) (hm : M a = .inl (3, N, .inl f)) (hi : vp_in i N) (kk : Wp R j Z k n (pc + 1) lv (.int (f i.toNatClampNeg) :: st) M top) : Wp R j Z k n pc lv (.int i :: .ref a :: st) M top := by
  intro l E p e s m args below meth c C H locs hl hH ls hv
  have hg := wl_get (E := E) (M := M) ha.1 ha.2
  rw [hm] at hg
  exact va_bald C.2.1 C.2.2.1 C.2.2.2.2.2.2.2.2.2.1.1 hH.1 (a - 3) 3 hg (tyl_get E (by decide)) hi hd (kk l E p e s m args below meth c C H locs hl hH ls hv)
theorem tv_rf (ad : Nat → Nat) (o : Option Nat) : tv ad (va_rf o) = va_rf (o.map ad) := by cases o <;> rfl
theorem x_aald {a N t : Nat} {f : Nat → Option Nat} {i : Int32} (ht : 4 ≤ t ∧ t < 7) (hd : decode (mB j) pc = .ok (.aaload, 1)) (ha : 3 ≤ a ∧ a < top) (hm : M a = .inl (t, N, .inr (.inr (.inr (.inr f))))) (hi : vp_in i N) (kk : Wp R j Z k n (pc + 1) lv (va_rf (f i.toNatClampNeg) :: st) M top) : Wp R j Z k n pc lv (.int i :: .ref a :: st) M top := by
  intro l E p e s m args below meth c C H locs hl hH ls hv
  have hg := wl_get (E := E) (M := M) ha.1 ha.2
  rw [hm] at hg
  have hq : ∃ C0 : String, tyO t = .object C0 := by
    obtain ⟨h1, h2⟩ := ht
    rcases (by omega : t = 4 ∨ t = 5 ∨ t = 6) with rfl | rfl | rfl <;> exact ⟨_, rfl⟩
  obtain ⟨C0, hC0⟩ := hq
  have ht2 := tyl_get E ht.2
  rw [hC0] at ht2
  have hk := kk l E p e s m args below meth c C H locs hl hH ls hv
  rw [List.map_cons, tv_rf] at hk
  exact va_aldq C.2.1 C.2.2.1 C.2.2.2.2.2.2.2.2.2.1.1 hH.1 (a - 3) t hg ht2 hi hd hk
theorem x_iast {a N : Nat} {f : Nat → Int32} {i : Int32} {v : Int32} (hd : decode (mB j) pc = .ok (.iastore, 1)) (ha : 3 ≤ a ∧ a < top) (hm : M a = .inl (0, N, .inl f)) (hi : vp_in i N) (kk : Wp R j Z k n (pc + 1) lv st (va_up M a (.inl (0, N, .inl (upd f i.toNatClampNeg v)))) top) : Wp R j Z k n pc lv (.int v :: .int i :: .ref a :: st) M top := by
  intro l E p e s m args below meth c C H locs hl hH ls hv
  have hg := wl_get (E := E) (M := M) ha.1 ha.2
  rw [hm] at hg
  refine W.iast C.2.1 C.2.2.1 (hH.1 (a - 3) _ hg) ((C.2.2.2.2.2.2.2.2.2.1.1.2 0 _ (tyl_get E (by decide))).1 N (fun q => .int (f q))) (fun q => by cases q) (by show ¬ (i < 0 ∨ (arrV _ _ _).slots.size ≤ _); rw [arrV_size]; exact hi) rfl rfl hd fun H1 e1 z1 oq => ?_
  refine kk l E p e s m args below meth c C H1 _ (loc_add hl (ea_ge C.1 ha.1)) (hp_put C.1 ha.1 ha.2 hH ?_ z1 oq) ls hv
  show H1[ea E a]? = some (vp_cell (eA E 0) (N, .inl (upd f i.toNatClampNeg v)))
  rw [e1]
  show some ((vp_cell (eA E 0) (N, .inl f)).setSlot _ _) = _
  rw [vp_cell_i, vp_cell_i, arrV_store]
  congr 2
  funext q
  by_cases hq : q = i.toNatClampNeg
  · subst hq
    simp [updV, upd]
    try rfl
  · simp [updV, upd, hq]
theorem x_zast {a N : Nat} {f : Nat → Int32} {i : Int32} {v : Int32} (hd : decode (mB j) pc = .ok (.bastore, 1)) (ha : 3 ≤ a ∧ a < top) (hm : M a = .inl (2, N, .inl f)) (hi : vp_in i N) (kk : Wp R j Z k n (pc + 1) lv st (va_up M a (.inl (2, N, .inl (upd f i.toNatClampNeg (vp_nar .boolean v))))) top) : Wp R j Z k n pc lv (.int v :: .int i :: .ref a :: st) M top := by
  intro l E p e s m args below meth c C H locs hl hH ls hv
  have hg := wl_get (E := E) (M := M) ha.1 ha.2
  rw [hm] at hg
  refine W.zast C.2.1 C.2.2.1 (hH.1 (a - 3) _ hg) ((C.2.2.2.2.2.2.2.2.2.1.1.2 2 _ (tyl_get E (by decide))).1 N (fun q => .int (f q))) (fun q => by cases q) (by show ¬ (i < 0 ∨ (arrV _ _ _).slots.size ≤ _); rw [arrV_size]; exact hi) rfl rfl hd fun H1 e1 z1 oq => ?_
  refine kk l E p e s m args below meth c C H1 _ (loc_add hl (ea_ge C.1 ha.1)) (hp_put C.1 ha.1 ha.2 hH ?_ z1 oq) ls hv
  show H1[ea E a]? = some (vp_cell (eA E 2) (N, .inl (upd f i.toNatClampNeg (vp_nar .boolean v))))
  rw [e1]
  show some ((vp_cell (eA E 2) (N, .inl f)).setSlot _ _) = _
  rw [vp_cell_i, vp_cell_i, arrV_store]
  congr 2
  funext q
  by_cases hq : q = i.toNatClampNeg
  · subst hq
    simp [updV, upd, vp_nar]
    try rfl
  · simp [updV, upd, hq]
theorem x_bast {a N : Nat} {f : Nat → Int32} {i : Int32} {v : Int32} (hd : decode (mB j) pc = .ok (.bastore, 1)) (ha : 3 ≤ a ∧ a < top) (hm : M a = .inl (3, N, .inl f)) (hi : vp_in i N) (kk : Wp R j Z k n (pc + 1) lv st (va_up M a (.inl (3, N, .inl (upd f i.toNatClampNeg (vp_nar .byte v))))) top) : Wp R j Z k n pc lv (.int v :: .int i :: .ref a :: st) M top := by
  intro l E p e s m args below meth c C H locs hl hH ls hv
  have hg := wl_get (E := E) (M := M) ha.1 ha.2
  rw [hm] at hg
  refine W.bast C.2.1 C.2.2.1 (hH.1 (a - 3) _ hg) ((C.2.2.2.2.2.2.2.2.2.1.1.2 3 _ (tyl_get E (by decide))).1 N (fun q => .int (f q))) (fun q => by cases q) (by show ¬ (i < 0 ∨ (arrV _ _ _).slots.size ≤ _); rw [arrV_size]; exact hi) rfl rfl hd fun H1 e1 z1 oq => ?_
  refine kk l E p e s m args below meth c C H1 _ (loc_add hl (ea_ge C.1 ha.1)) (hp_put C.1 ha.1 ha.2 hH ?_ z1 oq) ls hv
  show H1[ea E a]? = some (vp_cell (eA E 3) (N, .inl (upd f i.toNatClampNeg (vp_nar .byte v))))
  rw [e1]
  show some ((vp_cell (eA E 3) (N, .inl f)).setSlot _ _) = _
  rw [vp_cell_i, vp_cell_i, arrV_store]
  congr 2
  funext q
  by_cases hq : q = i.toNatClampNeg
  · subst hq
    simp [updV, upd, vp_nar]
    try rfl
  · simp [updV, upd, hq]
theorem x_last {a N : Nat} {f : Nat → Int64} {i : Int32} {v : Int64} (hd : decode (mB j) pc = .ok (.lastore, 1)) (ha : 3 ≤ a ∧ a < top) (hm : M a = .inl (1, N, .inr (.inl f))) (hi : vp_in i N) (kk : Wp R j Z k n (pc + 1) lv st (va_up M a (.inl (1, N, .inr (.inl (vp_updL f i.toNatClampNeg v))))) top) : Wp R j Z k n pc lv (.long v :: .int i :: .ref a :: st) M top := by
  intro l E p e s m args below meth c C H locs hl hH ls hv
  have hg := wl_get (E := E) (M := M) ha.1 ha.2
  rw [hm] at hg
  refine W.last C.2.1 C.2.2.1 (hH.1 (a - 3) _ hg) ((C.2.2.2.2.2.2.2.2.2.1.1.2 1 _ (tyl_get E (by decide))).1 N (fun q => .long (f q))) (fun q => by cases q) (by show ¬ (i < 0 ∨ (arrV _ _ _).slots.size ≤ _); rw [arrV_size]; exact hi) rfl rfl hd fun H1 e1 z1 oq => ?_
  refine kk l E p e s m args below meth c C H1 _ (loc_add hl (ea_ge C.1 ha.1)) (hp_put C.1 ha.1 ha.2 hH ?_ z1 oq) ls hv
  show H1[ea E a]? = some (vp_cell (eA E 1) (N, .inr (.inl (vp_updL f i.toNatClampNeg v))))
  rw [e1]
  show some ((vp_cell (eA E 1) (N, .inr (.inl f))).setSlot _ _) = _
  rw [vp_cell_l, vp_cell_l, arrV_store]
  congr 2
  funext q
  by_cases hq : q = i.toNatClampNeg
  · subst hq
    simp [updV, vp_updL]
    try rfl
  · simp [updV, vp_updL, hq]
theorem x_aast {a N t ci v : Nat} {f : Nat → Option Nat} {fs : List Value} {i : Int32} (ht : t < 7) (htc : tyO t = .object (clS ci)) (hci : ci < 10) (hd : decode (mB j) pc = .ok (.aastore, 1)) (ha : 3 ≤ a ∧ a < top) (hm : M a = .inl (t, N, .inr (.inr (.inr (.inr f))))) (hv0 : 3 ≤ v ∧ v < top) (hmv : M v = .inr (ci, fs)) (hi : vp_in i N) (kk : Wp R j Z k n (pc + 1) lv st (va_up M a (.inl (t, N, .inr (.inr (.inr (.inr (va_up f i.toNatClampNeg (some v)))))))) top) : Wp R j Z k n pc lv (.ref v :: .int i :: .ref a :: st) M top := by
  intro l E p e s m args below meth c C H locs hl hH ls hv
  have hg := wl_get (E := E) (M := M) ha.1 ha.2
  rw [hm] at hg
  have hgv := wl_get (E := E) (M := M) hv0.1 hv0.2
  rw [hmv] at hgv
  have hK := C.2.2.2.2.2.2.2.2.2.1.1
  have ht2 := tyl_get E ht
  rw [htc] at ht2
  have hlt : i.toNatClampNeg < N := Nat.not_le.mp fun q => hi (Or.inr q)
  have h0 : ¬ i < 0 := fun q => hi (Or.inl q)
  obtain ⟨r', hr', cellV, g1, g2, g3, -⟩ := hH.1 (v - 3) _ hgv
  have hcls := (hK.1 ci _ (cl_get hci)).2
  obtain ⟨kA, comp, k1, k2, k3, -⟩ := (hK.2 t _ ht2).2
  have hcomp : comp = (eD E).1 ci := Option.some.inj (k3.symm.trans hcls.1)
  subst hcomp
  obtain ⟨kC, hkC, -⟩ := hcls.2
  refine W.aast C.2.1 C.2.2.1 (hH.1 (a - 3) _ hg) (fun q h => by cases h) (fun h => by cases h) k1 k2 rfl hkC ⟨h0, by show _ < (arrV _ _ _).slots.size; rw [arrV_size]; exact hlt⟩ g1 (fun q h => by rw [g3] at h; cases h) (by rw [g2]; exact hkC) (by rw [g2]; exact va_assign hcls) rfl rfl hd fun H1 e1 z1 oq => ?_
  refine kk l E p e s m args below meth c C H1 _ (loc_add hl (ea_ge C.1 ha.1)) (hp_put C.1 ha.1 ha.2 hH ?_ z1 oq) ls hv
  show H1[ea E a]? = some (vp_cell (eA E t) (N, .inr (.inr (.inr (.inr (fun q => (va_up f i.toNatClampNeg (some v) q).map (ea E)))))))
  rw [e1]
  show some ((vp_cell (eA E t) (N, .inr (.inr (.inr (.inr (fun q => (f q).map (ea E))))))).setSlot _ _) = _
  rw [vp_cell_q, vp_cell_q, arrV_store]
  congr 2
  funext q
  by_cases hq : q = i.toNatClampNeg
  · subst hq
    simp [updV, va_up, va_rf]
  · simp [updV, va_up, hq]
end XR
end
section
/-! making things, calls, returns, the script -/
section XC
variable {R : Room} {j : Nat} {Z : Zt} {k n pc : Nat} {lv : List (Nat × Value)} {st : List Value} {M : Me} {top : Nat}
theorem hp_lt {E : En} {top : Nat} {M : Me} {H : Heap} (h : hp E M top H) : 3 ≤ top := h.2.1.1
theorem va_def (ci : Nat) (hci : ci < 10) (ad : Nat → Nat) : ∀ q, q < clN ci → defaultValue (clY ci q) = vp_V (((List.range (clN ci)).map (fun q => defaultValue (clY ci q))).map (tv ad)) q := by
  intro q hq
  have h1 : tv ad (defaultValue (clY ci q)) = defaultValue (clY ci q) := by cases clY ci q <;> rfl
  simp [vp_V, List.getD_eq_getElem?_getD, List.getElem?_map, List.getElem?_range hq, h1]
theorem x_new {ci idx : Nat} {fs : List Value} (hd : decode (mB j) pc = .ok (.new idx, 3)) (hw : Cond.classLink (mY j).cls idx (clS ci) ∈ gw) (hi1 : Cond.instantiable (clS ci) (clN ci) ∈ gw) (hi2 : Cond.initialized (clS ci) ∈ gw) (hci : ci < 10) (hfs : (List.range (clN ci)).map (fun q => defaultValue (clY ci q)) = fs) (hk : k + 1 ≤ R.cells ∧ n + clN ci ≤ R.slots) (kk : Wp R j Z (k + 1) (n + clN ci) (pc + 3) lv (.ref top :: st) (va_up M top (.inr (ci, fs))) (top + 1)) : Wp R j Z k n pc lv st M top := by
  intro l E p e s m args below meth c C H locs hl hH ls hv
  have hts := C.2.2.2.2.2.2.1
  have hK := C.2.2.2.2.2.2.2.2.2.1.1
  have hKn := hK.1 ci _ (cl_get hci)
  refine W.newcK C.2.1 C.2.2.1 C.2.2.2.2.2.1 (hts _ hw) (hts _ hi1) (hts _ hi2) rfl hd hk.1 hk.2 hKn.2.1 rfl fun H1 kC hkC e1 z1 o1 => ?_
  obtain ⟨hH1, ht⟩ := hp_push C.1 hH (c := .inr (ci, fs)) (H1 := H1) ⟨_, cl_get hci, (u_born (clY ci) hts (cl_ws hci) hKn hkC e1 (cl_ty hci)).to (by rw [← hfs]; exact va_def ci hci (ea E))⟩ z1 o1
  rw [← ht]
  exact kk l E p e s m args below meth c C H1 locs hl hH1 ls hv
theorem x_newarr {t N : Nat} {at0 : ArrayType} {i : Int32} {a0 : vp_A} (hd : decode (mB j) pc = .ok (.newarray at0, 2)) (ht : t < 4) (hty : newarray.typeOf at0 = tyO t) (hw : Cond.arrayClass (tyO t) ∈ gw) (ha : ∀ cA : ClassId, vp_cell cA a0 = arrV cA N (fun _ => defaultValue (tyO t))) (hta : ∀ ad : Nat → Nat, tA ad a0 = a0) (hi0 : ¬ i < 0) (hN : i.toNatClampNeg = N) (hb : N * 8 ≤ 536870912) (hk : k + 1 ≤ R.cells ∧ n + N ≤ R.slots) (kk : Wp R j Z (k + 1) (n + N) (pc + 2) lv (.ref top :: st) (va_up M top (.inl (t, a0))) (top + 1)) : Wp R j Z k n pc lv (.int i :: st) M top := by
  intro l E p e s m args below meth c C H locs hl hH ls hv
  have hts := C.2.2.2.2.2.2.1
  have hK := C.2.2.2.2.2.2.2.2.2.1.1
  have hcb : componentBytes (newarray.typeOf at0) ≤ 8 := by cases at0 <;> decide
  have hNb : N * componentBytes (newarray.typeOf at0) ≤ 536870912 := Nat.le_trans (Nat.mul_le_mul_left _ hcb) hb
  refine va_newaK C.2.1 C.2.2.1 (by rw [hty]; exact hts _ hw) rfl hd rfl hi0 hN hNb hk.1 hk.2 rfl fun H1 cA e1 z1 o1 hAr hNm => ?_
  have hcA : cA = eA E t := by
    have h2 := (hK.2 t _ (tyl_get E (by omega))).2
    rw [hty] at hNm
    have h3 : s.vm.findClass ("[" ++ (tyO t).toString) = some (eA E t) := by
      rcases (by omega : t = 0 ∨ t = 1 ∨ t = 2 ∨ t = 3) with rfl | rfl | rfl | rfl <;> exact h2
    exact Option.some.inj (hNm.symm.trans h3)
  subst hcA
  obtain ⟨hH1, ht1⟩ := hp_push C.1 hH (c := .inl (t, a0)) (H1 := H1) (by
    show H1[H.size]? = some (vp_cell (eA E t) (tA (ea E) a0))
    rw [hta, ha, e1, hty]) z1 o1
  rw [← ht1]
  exact kk l E p e s m args below meth c C H1 locs hl hH1 ls hv
theorem x_anew {t ci N idx : Nat} {i : Int32} (hd : decode (mB j) pc = .ok (.anewarray idx, 3)) (hw : Cond.classLink (mY j).cls idx (clS ci) ∈ gw) (ht : 4 ≤ t ∧ t < 7) (htc : tyO t = .object (clS ci)) (hi0 : ¬ i < 0) (hN : i.toNatClampNeg = N) (hb : N * 4 ≤ 536870912) (hk : k + 1 ≤ R.cells ∧ n + N ≤ R.slots) (kk : Wp R j Z (k + 1) (n + N) (pc + 3) lv (.ref top :: st) (va_up M top (.inl (t, N, .inr (.inr (.inr (.inr (fun _ => none))))))) (top + 1)) : Wp R j Z k n pc lv (.int i :: st) M top := by
  intro l E p e s m args below meth c C H locs hl hH ls hv
  have hts := C.2.2.2.2.2.2.1
  have hF := C.2.2.2.2.2.2.2.2.2.1
  have hK := hF.1
  have hAO : va_AO (clS ci) s := by
    obtain ⟨-, -, -, -, -, -, h1, h2, h3⟩ := hF
    rcases (by omega : t = 4 ∨ t = 5 ∨ t = 6) with rfl | rfl | rfl <;> (have h9 := FieldType.object.inj htc; rw [← h9]; assumption)
  subst hN
  refine W.anew C.2.1 C.2.2.1 C.2.2.2.2.2.1 (hts _ hw) (va_AO.use hAO) rfl hd rfl hi0 hb hk.1 hk.2 fun cA kA comp f1 f2 f3 f4 => ?_
  have hcA : cA = eA E t := by
    have h2 := (hK.2 t _ (tyl_get E ht.2)).2
    rw [htc] at h2
    obtain ⟨_, _, _, _, _, h4⟩ := h2
    exact Option.some.inj (f1.symm.trans h4)
  subst hcA
  generalize hH1 : H.push ({ cls := eA E t, slots := Array.replicate i.toNatClampNeg .null, vm := .none } : Cell) = H1
  have z1 : H1.size = H.size + 1 := by rw [← hH1, Array.size_push]
  have e1 : H1[H.size]? = some (arrV (eA E t) i.toNatClampNeg (fun _ => .null)) := by rw [← hH1, Array.getElem?_push_size, ← arrV_new]
  have o1 : ∀ q : Nat, q < H.size → H1[q]? = H[q]? := fun q hq => by rw [← hH1, Array.getElem?_push, if_neg (Nat.ne_of_lt hq)]
  obtain ⟨hH2, ht1⟩ := hp_push C.1 hH (c := .inl (t, i.toNatClampNeg, .inr (.inr (.inr (.inr (fun _ => none)))))) (H1 := H1) (by
    show H1[H.size]? = some (vp_cell (eA E t) (i.toNatClampNeg, .inr (.inr (.inr (.inr (fun _ => none))))))
    rw [vp_cell_q]; exact e1) z1 o1
  rw [← ht1]
  exact kk l E p e s m args below meth c C H1 locs hl hH2 ls hv
theorem x_objInit {idx a : Nat} (hd : decode (mB j) pc = .ok (.invokespecial idx, 3)) (hw : Cond.methodLink (mY j).cls idx objectInit ∈ gw) (hI : Cond.instanceMethod objectInit ∈ gw) (hc : Cond.code objectInit ⟨#[0xb1]⟩ 1 none ∈ gw) (hR : 1 ≤ R.frames) (hL : (st.map fun v => v.category).sum + 12 ≤ R.locals) (kk : Wp R j Z k n (pc + 3) lv st M top) : Wp R j Z k n pc lv (.ref a :: st) M top := by
  intro l E p e s m args below meth c C H locs hl hH ls hv
  have hts := C.2.2.2.2.2.2.1
  refine W.objInit C.2.1 C.2.2.1 C.2.2.2.2.2.1 (hts _ hw) (hts _ hI) (hts _ hc) rfl (by rw [C.2.2.2.2.1]; exact hv.1) rfl hd hR ?_ (kk l E p e s m args below meth c C H locs hl hH ls hv)
  have h1 : ((st.map (tv (ea E))).map fun v => v.category) = st.map fun v => v.category := by
    rw [List.map_map]; exact List.map_congr_left (fun v _ => tv_cat _ v)
  show 2 * 0 + _ + 12 ≤ _
  rw [h1]; omega
/-- what a call needs of method y, beside its link -/
def mOK (y np : Nat) : Prop := y < 197 ∧ Cond.initialized (mY y).cls ∈ gw ∧ (mY y).cls ≠ "java/lang/invoke/MethodHandle" ∧ (mY y).cls ≠ "java/lang/invoke/VarHandle" ∧ (parseMethodDescriptor (mY y).desc).map (fun d => d.parameters.length) = some np
theorem good_list {l1 : List Cond} (h : ∀ w ∈ l1, w ∈ gw) : GoodIn gw l1 := fun w hw => ⟨h w hw, gw_good (h w hw)⟩
theorem mW_in {y : Nat} (h : y < 197) : ∀ w ∈ mW y, w ∈ gw := fun w hw => by
  rcases List.mem_cons.mp hw with rfl | hw
  · exact m_code h
  · exact hw
theorem cPc_blind (E : En) (av : List Value) (M : Me) (top : Nat) : FrameBlind (cPc E av M top) := fun a U g mk h => ⟨h.1, h.2.1, eF_same (s := U) (U := U.calling g mk a) rfl h.2.2⟩
theorem st_cat (ad : Nat → Nat) (l : List Value) : ((l.map (tv ad)).map fun v => v.category) = l.map fun v => v.category := by
  rw [List.map_map]; exact List.map_congr_left (fun v _ => tv_cat _ v)
/-- behind a call -/
theorem x_back {E : En} {l : Launch} {p : Program} {e : Env} {s : State} {m : MethodId} {args : Array Value} {below : List Frame} {meth : Method} {c : Code} {H : Heap} {locs : List Loc} {mc ms : Nat} {ls : Array Slot} {st0 : List Value} {post : Po} {a : Array Value}
    (hr : va_Run p l e R s m args below meth c H locs k n mc ms (F0 m pc ls st0) (st.map (tv (ea E))) (cQc E post a) (eNew E)) (C : Cx E j p s m args meth c) (hl : ∀ q ∈ locs, eS E ≤ q.base) (hv : lv_has ls (mL j) (lv.map (tvp (ea E))))
    (kk : ∀ r M1 top1, post r M1 top1 → Wp R j Z (k + mc) (n + ms) (pc + 3) lv (r.toList ++ st) M1 top1) : W p l e R s m args below meth c H locs k n (Z E args s below) (F0 m pc ls st0) := by
  intro T hT X
  obtain ⟨v, st₀, t, T', L, h0, X', hL, e1, e2, ⟨r, M1, top1, hv1, hpost, hH1⟩, stp⟩ := hr T hT X
  have hv2 : v = r.map (tv (ea E)) := Outcome.returned.inj hv1
  subst hv2
  have hk := kk r M1 top1 hpost l E p e s m args below meth c C T'.heap (locs ++ L) (fun q hq => by
    rcases List.mem_append.mp hq with h | h
    · exact hl q h
    · exact hL q h) (by rw [e1]; exact hH1) ls hv T' rfl X'
  obtain ⟨t2, a1, b1⟩ := hk
  refine ⟨t2, stp t2 ?_, b1⟩
  have e9 : (r.toList ++ st).map (tv (ea E)) = (r.map (tv (ea E))).toList ++ st.map (tv (ea E)) := by
    rw [List.map_append]; cases r <;> rfl
  rw [e9] at a1
  exact a1
theorem x_callV {y idx a ci d mc ms np : Nat} {fs As : List Value} {post : Po} (hd : decode (mB j) pc = .ok (.invokevirtual idx, 3)) (hw : Cond.methodLink (mY j).cls idx (mY y) ∈ gw) (hok : mOK y np) (hI : Cond.instanceMethod (mY y) ∈ gw) (hSel : Cond.selects (mY y).cls (mY y) (mY y) ∈ gw) (hnp : As.length = np) (hci : ci < 10) (hcl : clS ci = (mY y).cls) (ha : 3 ≤ a ∧ a < top) (hm : M a = .inr (ci, fs)) (hrest : (st.map fun v => v.category).sum ≤ 8) (hct : Ct d mc ms y (.ref a :: As) M top post) (hR : d + 1 ≤ R.frames ∧ 8 + (mL y + 11) + 40 * d ≤ R.locals) (hf : k + mc ≤ R.cells ∧ n + ms ≤ R.slots) (kk : ∀ r M1 top1, post r M1 top1 → Wp R j Z (k + mc) (n + ms) (pc + 3) lv (r.toList ++ st) M1 top1) : Wp R j Z k n pc lv (As.reverse ++ .ref a :: st) M top := by
  intro l E p e s m args below meth c C H locs hl hH ls hv
  have hts := C.2.2.2.2.2.2.1
  have hF := C.2.2.2.2.2.2.2.2.2.1
  have hg := wl_get (E := E) (M := M) ha.1 ha.2
  rw [hm] at hg
  have hGood : GoodIn gw (wsV (mY j).cls idx (mY y).cls (mY y) (mW y)) := good_list (fun w h => by
    unfold wsV at h
    rcases List.mem_append.mp h with h | h
    · simp only [List.mem_cons, List.not_mem_nil, or_false] at h
      rcases h with rfl | rfl | rfl | rfl
      · exact hw
      · exact hI
      · exact hSel
      · exact hok.2.1
    · exact mW_in hok.1 w h)
  have cw := cwV (rm := rmd d mc ms) (mc := mc) (ms := ms) np hts hGood rfl rfl rfl ⟨rfl, hok.2.2⟩ hR
  have hrecv := va_recv hF.1 hH.1 (cl_get hci) hg
  rw [hcl] at hrecv
  refine x_back (va_runV (As := As.map (tv (ea E))) (b := ea E a) ⟨C.2.1, C.2.2.1, C.2.2.2.2.1, C.2.2.2.2.2.1, hts⟩ (hct l E C.1) cw ⟨cPc_blind _ _ _ _, hrecv, fun U hU hW => ⟨rfl, by rw [hU]; exact hH, eF_warm hW hF⟩⟩ rfl (by rw [List.length_map]; exact hnp) hv.1 ?_ (lv_room (by rw [st_cat]; exact hrest)) hd hf) C hl hv kk
  show (As.reverse ++ Value.ref a :: st).map (tv (ea E)) = _
  rw [List.map_append, List.map_reverse]; rfl
theorem x_callS {y idx d mc ms np : Nat} {As : List Value} {post : Po} (hd : decode (mB j) pc = .ok (.invokestatic idx, 3)) (hw : Cond.methodLink (mY j).cls idx (mY y) ∈ gw) (hok : mOK y np) (hI : Cond.static (mY y) ∈ gw) (hnp : As.length = np) (hrest : (st.map fun v => v.category).sum ≤ 8) (hct : Ct d mc ms y As M top post) (hR : d + 1 ≤ R.frames ∧ 8 + (mL y + 11) + 40 * d ≤ R.locals) (hf : k + mc ≤ R.cells ∧ n + ms ≤ R.slots) (kk : ∀ r M1 top1, post r M1 top1 → Wp R j Z (k + mc) (n + ms) (pc + 3) lv (r.toList ++ st) M1 top1) : Wp R j Z k n pc lv (As.reverse ++ st) M top := by
  intro l E p e s m args below meth c C H locs hl hH ls hv
  have hts := C.2.2.2.2.2.2.1
  have hF := C.2.2.2.2.2.2.2.2.2.1
  have hGood : GoodIn gw (va_wsS (mY j).cls idx (mY y) (mW y)) := good_list (fun w h => by
    unfold va_wsS at h
    rcases List.mem_append.mp h with h | h
    · simp only [List.mem_cons, List.not_mem_nil, or_false] at h
      rcases h with rfl | rfl | rfl
      · exact hw
      · exact hI
      · exact hok.2.1
    · exact mW_in hok.1 w h)
  have cw := va_cwS (rm := rmd d mc ms) (mc := mc) (ms := ms) np hts hGood rfl rfl rfl hok.2.2 hR
  refine x_back (va_runS (As := As.map (tv (ea E))) ⟨C.2.1, C.2.2.1, C.2.2.2.2.1, C.2.2.2.2.2.1, hts⟩ (hct l E C.1) cw ⟨cPc_blind _ _ _ _, fun U hU hW => ⟨rfl, by rw [hU]; exact hH, eF_warm hW hF⟩⟩ rfl (by rw [List.length_map]; exact hnp) hv.1 ?_ (lv_room (by rw [st_cat]; exact hrest)) hd hf) C hl hv kk
  show (As.reverse ++ st).map (tv (ea E)) = _
  rw [List.map_append, List.map_reverse]
theorem x_callI {y idx a d mc ms np : Nat} {As : List Value} {post : Po} (hd : decode (mB j) pc = .ok (.invokespecial idx, 3)) (hw : Cond.methodLink (mY j).cls idx (mY y) ∈ gw) (hok : mOK y np) (hI : Cond.instanceMethod (mY y) ∈ gw) (hini : (mY y).name = "<init>") (hret : mR y = none) (hnp : As.length = np) (hrest : (st.map fun v => v.category).sum ≤ 8) (hct : Ct d mc ms y (.ref a :: As) M top post) (hR : d + 1 ≤ R.frames ∧ 8 + (mL y + 11) + 40 * d ≤ R.locals) (hf : k + mc ≤ R.cells ∧ n + ms ≤ R.slots) (kk : ∀ r M1 top1, post r M1 top1 → Wp R j Z (k + mc) (n + ms) (pc + 3) lv (r.toList ++ st) M1 top1) : Wp R j Z k n pc lv (As.reverse ++ .ref a :: st) M top := by
  intro l E p e s m args below meth c C H locs hl hH ls hv
  have hts := C.2.2.2.2.2.2.1
  have hF := C.2.2.2.2.2.2.2.2.2.1
  have cw := cwI (rm := rmd d mc ms) (mc := mc) (ms := ms) (ws := mW y) (bytes := mB y) (maxL := mL y) np hts (good_list (mW_in hok.1)) (by rw [mW, hret]) rfl rfl (hts _ hok.2.1) (hts _ hw) (hts _ hI) hini hok.2.2 hR
  refine x_back (va_runI (As := As.map (tv (ea E))) (b := ea E a) ⟨C.2.1, C.2.2.1, C.2.2.2.2.1, C.2.2.2.2.2.1, hts⟩ (hct l E C.1) cw ⟨cPc_blind _ _ _ _, fun U hU hW => ⟨rfl, by rw [hU]; exact hH, eF_warm hW hF⟩⟩ rfl (by rw [List.length_map]; exact hnp) hv.1 ?_ (lv_room (by rw [st_cat]; exact hrest)) hd hf) C hl hv kk
  show (As.reverse ++ Value.ref a :: st).map (tv (ea E)) = _
  rw [List.map_append, List.map_reverse]; rfl
theorem x_callIN {y idx a d mc ms np : Nat} {host : String} {As : List Value} {post : Po} (hd : decode (mB j) pc = .ok (.invokespecial idx, 3)) (hw : Cond.methodLinkNest (mY j).cls idx (mY y) host ∈ nsw) (hok : mOK y np) (hI : Cond.instanceMethod (mY y) ∈ gw) (hini : (mY y).name = "<init>") (hret : mR y = none) (hnp : As.length = np) (hrest : (st.map fun v => v.category).sum ≤ 8) (hct : Ct d mc ms y (.ref a :: As) M top post) (hR : d + 1 ≤ R.frames ∧ 8 + (mL y + 11) + 40 * d ≤ R.locals) (hf : k + mc ≤ R.cells ∧ n + ms ≤ R.slots) (kk : ∀ r M1 top1, post r M1 top1 → Wp R j Z (k + mc) (n + ms) (pc + 3) lv (r.toList ++ st) M1 top1) : Wp R j Z k n pc lv (As.reverse ++ .ref a :: st) M top := by
  intro l E p e s m args below meth c C H locs hl hH ls hv
  have hts := C.2.2.2.2.2.2.1
  have hF := C.2.2.2.2.2.2.2.2.2.1
  have cw := va_cnB (R := R) (rm := rmd d mc ms) (mc := mc) (ms := ms) (ws := mW y) (bytes := mB y) (maxL := mL y) (ret := none) np hts (good_list (mW_in hok.1)) (by rw [mW, hret]) rfl rfl (hF.2.1 _ hw) (hts _ hok.2.1) hok.2.2 hR
  refine x_back (va_runIN (As := As.map (tv (ea E))) (b := ea E a) ⟨C.2.1, C.2.2.1, C.2.2.2.2.1, C.2.2.2.2.2.1, hts⟩ (hct l E C.1) ⟨cw, hini, hts _ hI⟩ ⟨cPc_blind _ _ _ _, fun U hU hW => ⟨rfl, by rw [hU]; exact hH, eF_warm hW hF⟩⟩ rfl (by rw [List.length_map]; exact hnp) hv.1 ?_ (lv_room (by rw [st_cat]; exact hrest)) hd hf) C hl hv kk
  show (As.reverse ++ Value.ref a :: st).map (tv (ea E)) = _
  rw [List.map_append, List.map_reverse]; rfl
/-! ends -/
theorem x_vret {post : Po} {mc ms : Nat} (hd : decode (mB j) pc = .ok (.return_, 1)) (hr : mR j = none) (hk : k ≤ mc ∧ n ≤ ms) (hp0 : post none M top) : Wp R j (mZ post mc ms) k n pc lv [] M top := by
  intro l E p e s m args below meth c C H locs hl hH ls hv
  refine W.widen hk.1 hk.2 ?_
  exact W.vret C.2.1 C.2.2.1 (C.2.2.2.1.trans hr) (fun t ht hW => ⟨none, M, top, rfl, hp0, by rw [ht]; exact hH⟩) hl hd C.2.2.2.2.2.2.2.1
theorem x_iret {post : Po} {mc ms : Nat} {v : Int32} {ty : FieldType} (hd : decode (mB j) pc = .ok (.ireturn, 1)) (hr : mR j = some ty) (hnr : narrow ty (.int v) = .int v) (hk : k ≤ mc ∧ n ≤ ms) (hp0 : post (some (.int v)) M top) : Wp R j (mZ post mc ms) k n pc lv [.int v] M top := by
  intro l E p e s m args below meth c C H locs hl hH ls hv
  refine W.widen hk.1 hk.2 ?_
  exact W.zret C.2.1 C.2.2.1 (C.2.2.2.1.trans hr) hnr (fun t ht hW => ⟨some (.int v), M, top, rfl, hp0, by rw [ht]; exact hH⟩) hl hd C.2.2.2.2.2.2.2.1
theorem x_lret {post : Po} {mc ms : Nat} {v : Int64} (hd : decode (mB j) pc = .ok (.lreturn, 1)) (hr : mR j = some .long) (hk : k ≤ mc ∧ n ≤ ms) (hp0 : post (some (.long v)) M top) : Wp R j (mZ post mc ms) k n pc lv [.long v] M top := by
  intro l E p e s m args below meth c C H locs hl hH ls hv
  refine W.widen hk.1 hk.2 ?_
  exact W.lret C.2.1 C.2.2.1 (C.2.2.2.1.trans hr) (fun t ht hW => ⟨some (.long v), M, top, rfl, hp0, by rw [ht]; exact hH⟩) hl hd C.2.2.2.2.2.2.2.1
/-! a contract says less, takes more room -/
theorem Ct.post {d mc ms y : Nat} {av : List Value} {post post' : Po} (h : Ct d mc ms y av M top post) (hpp : ∀ r M1 top1, post r M1 top1 → post' r M1 top1) : Ct d mc ms y av M top post' := by
  intro l E hE p e h1 h2 h3 s m args below hf hS hP hK
  obtain ⟨q, o, a1, a2, a3, ⟨r, M1, top1, b1, b2, b3⟩, a5⟩ := h l E hE p e h1 h2 h3 s m args below hf hS hP hK
  exact ⟨q, o, a1, a2, a3, ⟨r, M1, top1, b1, hpp r M1 top1 b2, b3⟩, a5⟩
/-! the script -/
theorem x_sld {i : Int32} {f : Nat → Int32} {L : Nat} (hd : decode (mB j) pc = .ok (.iaload, 1)) (kk : ∀ E : En, Wp R j Z k n (pc + 1) lv (.int (eX E i.toNatClampNeg) :: st) M top) (hi : ∀ E : En, vp_in i (eL E)) : Wp R j Z k n pc lv (.int i :: .ref 0 :: st) M top := by
  intro l E p e s m args below meth c C H locs hl hH ls hv
  have hF := C.2.2.2.2.2.2.2.2.2.1
  exact va_sld (A := eNew E) C.2.1 C.2.2.1 hF.2.2.2.2.2.1 (by rw [C.1.2.2]; exact C.1.2.1 0 (by decide)) (by have := C.1.2.1 0 (by decide); show ¬ eS E ≤ _; omega) (hp_S C.1 hH hl) (hi E) hd (kk E l E p e s m args below meth c C H locs hl hH ls hv)
end XC
end
section
/-! what stands at each place of the code -/
theorem d0_0 : decode (mB 0) 0 = .ok (.aload_n 0, 1) := by decide +kernel
theorem d0_1 : decode (mB 0) 1 = .ok (.invokespecial 3, 3) := by decide +kernel
theorem d0_4 : decode (mB 0) 4 = .ok (.aload_n 0, 1) := by decide +kernel
theorem d0_5 : decode (mB 0) 5 = .ok (.sipush 800, 3) := by decide +kernel
theorem d0_8 : decode (mB 0) 8 = .ok (.newarray .int, 2) := by decide +kernel
theorem d0_10 : decode (mB 0) 10 = .ok (.putfield 9, 3) := by decide +kernel
theorem d0_13 : decode (mB 0) 13 = .ok (.aload_n 0, 1) := by decide +kernel
theorem d0_14 : decode (mB 0) 14 = .ok (.new 13, 3) := by decide +kernel
theorem d0_17 : decode (mB 0) 17 = .ok (.dup, 1) := by decide +kernel
theorem d0_18 : decode (mB 0) 18 = .ok (.invokespecial 15, 3) := by decide +kernel
theorem d0_21 : decode (mB 0) 21 = .ok (.putfield 16, 3) := by decide +kernel
theorem d0_24 : decode (mB 0) 24 = .ok (.aload_n 0, 1) := by decide +kernel
theorem d0_25 : decode (mB 0) 25 = .ok (.bipush 12, 2) := by decide +kernel
theorem d0_27 : decode (mB 0) 27 = .ok (.anewarray 20, 3) := by decide +kernel
theorem d0_30 : decode (mB 0) 30 = .ok (.putfield 22, 3) := by decide +kernel
theorem d0_33 : decode (mB 0) 33 = .ok (.iconst 0, 1) := by decide +kernel
theorem d0_34 : decode (mB 0) 34 = .ok (.istore_n 1, 1) := by decide +kernel
theorem d0_35 : decode (mB 0) 35 = .ok (.iload_n 1, 1) := by decide +kernel
theorem d0_36 : decode (mB 0) 36 = .ok (.bipush 12, 2) := by decide +kernel
theorem d0_38 : decode (mB 0) 38 = .ok (.if_icmp .ge 22, 3) := by decide +kernel
theorem d0_41 : decode (mB 0) 41 = .ok (.aload_n 0, 1) := by decide +kernel
theorem d0_42 : decode (mB 0) 42 = .ok (.getfield 22, 3) := by decide +kernel
theorem d0_45 : decode (mB 0) 45 = .ok (.iload_n 1, 1) := by decide +kernel
theorem d0_46 : decode (mB 0) 46 = .ok (.new 20, 3) := by decide +kernel
theorem d0_49 : decode (mB 0) 49 = .ok (.dup, 1) := by decide +kernel
theorem d0_50 : decode (mB 0) 50 = .ok (.invokespecial 26, 3) := by decide +kernel
theorem d0_53 : decode (mB 0) 53 = .ok (.aastore, 1) := by decide +kernel
theorem d0_54 : decode (mB 0) 54 = .ok (.iinc 1 1, 3) := by decide +kernel
theorem d0_57 : decode (mB 0) 57 = .ok (.goto (-22), 3) := by decide +kernel
theorem d0_60 : decode (mB 0) 60 = .ok (.aload_n 0, 1) := by decide +kernel
theorem d0_61 : decode (mB 0) 61 = .ok (.iconst (-1), 1) := by decide +kernel
theorem d0_62 : decode (mB 0) 62 = .ok (.putfield 27, 3) := by decide +kernel
theorem d0_65 : decode (mB 0) 65 = .ok (.aload_n 0, 1) := by decide +kernel
theorem d0_66 : decode (mB 0) 66 = .ok (.new 31, 3) := by decide +kernel
theorem d0_69 : decode (mB 0) 69 = .ok (.dup, 1) := by decide +kernel
theorem d0_70 : decode (mB 0) 70 = .ok (.invokespecial 33, 3) := by decide +kernel
theorem d0_73 : decode (mB 0) 73 = .ok (.putfield 34, 3) := by decide +kernel
theorem d0_76 : decode (mB 0) 76 = .ok (.return_, 1) := by decide +kernel
theorem d10_0 : decode (mB 10) 0 = .ok (.aload_n 0, 1) := by decide +kernel
theorem d10_1 : decode (mB 10) 1 = .ok (.getfield 38, 3) := by decide +kernel
theorem d10_4 : decode (mB 10) 4 = .ok (.bipush 20, 2) := by decide +kernel
theorem d10_6 : decode (mB 10) 6 = .ok (.iadd, 1) := by decide +kernel
theorem d10_7 : decode (mB 10) 7 = .ok (.sipush 800, 3) := by decide +kernel
theorem d10_10 : decode (mB 10) 10 = .ok (.if_icmp .le 5, 3) := by decide +kernel
theorem d10_13 : decode (mB 10) 13 = .ok (.iconst (-1), 1) := by decide +kernel
theorem d10_14 : decode (mB 10) 14 = .ok (.ireturn, 1) := by decide +kernel
theorem d10_15 : decode (mB 10) 15 = .ok (.aload_n 0, 1) := by decide +kernel
theorem d10_16 : decode (mB 10) 16 = .ok (.iload_n 1, 1) := by decide +kernel
theorem d10_17 : decode (mB 10) 17 = .ok (.invokevirtual 41, 3) := by decide +kernel
theorem d10_20 : decode (mB 10) 20 = .ok (.aload_n 0, 1) := by decide +kernel
theorem d10_21 : decode (mB 10) 21 = .ok (.iload_n 2, 1) := by decide +kernel
theorem d10_22 : decode (mB 10) 22 = .ok (.invokevirtual 41, 3) := by decide +kernel
theorem d10_25 : decode (mB 10) 25 = .ok (.aload_n 0, 1) := by decide +kernel
theorem d10_26 : decode (mB 10) 26 = .ok (.iload_n 3, 1) := by decide +kernel
theorem d10_27 : decode (mB 10) 27 = .ok (.invokevirtual 41, 3) := by decide +kernel
theorem d10_30 : decode (mB 10) 30 = .ok (.aload_n 0, 1) := by decide +kernel
theorem d10_31 : decode (mB 10) 31 = .ok (.iload 4, 2) := by decide +kernel
theorem d10_33 : decode (mB 10) 33 = .ok (.invokevirtual 41, 3) := by decide +kernel
theorem d10_36 : decode (mB 10) 36 = .ok (.aload_n 0, 1) := by decide +kernel
theorem d10_37 : decode (mB 10) 37 = .ok (.iload 5, 2) := by decide +kernel
theorem d10_39 : decode (mB 10) 39 = .ok (.invokevirtual 41, 3) := by decide +kernel
theorem d10_42 : decode (mB 10) 42 = .ok (.aload_n 0, 1) := by decide +kernel
theorem d10_43 : decode (mB 10) 43 = .ok (.getfield 38, 3) := by decide +kernel
theorem d10_46 : decode (mB 10) 46 = .ok (.ireturn, 1) := by decide +kernel
theorem d11_0 : decode (mB 11) 0 = .ok (.bipush 24, 2) := by decide +kernel
theorem d11_2 : decode (mB 11) 2 = .ok (.istore_n 2, 1) := by decide +kernel
theorem d11_3 : decode (mB 11) 3 = .ok (.iload_n 2, 1) := by decide +kernel
theorem d11_4 : decode (mB 11) 4 = .ok (.ifCond .lt 35, 3) := by decide +kernel
theorem d11_7 : decode (mB 11) 7 = .ok (.aload_n 0, 1) := by decide +kernel
theorem d11_8 : decode (mB 11) 8 = .ok (.getfield 9, 3) := by decide +kernel
theorem d11_11 : decode (mB 11) 11 = .ok (.aload_n 0, 1) := by decide +kernel
theorem d11_12 : decode (mB 11) 12 = .ok (.getfield 38, 3) := by decide +kernel
theorem d11_15 : decode (mB 11) 15 = .ok (.iload_n 1, 1) := by decide +kernel
theorem d11_16 : decode (mB 11) 16 = .ok (.iload_n 2, 1) := by decide +kernel
theorem d11_17 : decode (mB 11) 17 = .ok (.iushr, 1) := by decide +kernel
theorem d11_18 : decode (mB 11) 18 = .ok (.sipush 255, 3) := by decide +kernel
theorem d11_21 : decode (mB 11) 21 = .ok (.iand, 1) := by decide +kernel
theorem d11_22 : decode (mB 11) 22 = .ok (.iastore, 1) := by decide +kernel
theorem d11_23 : decode (mB 11) 23 = .ok (.aload_n 0, 1) := by decide +kernel
theorem d11_24 : decode (mB 11) 24 = .ok (.dup, 1) := by decide +kernel
theorem d11_25 : decode (mB 11) 25 = .ok (.getfield 38, 3) := by decide +kernel
theorem d11_28 : decode (mB 11) 28 = .ok (.iconst 1, 1) := by decide +kernel
theorem d11_29 : decode (mB 11) 29 = .ok (.iadd, 1) := by decide +kernel
theorem d11_30 : decode (mB 11) 30 = .ok (.putfield 38, 3) := by decide +kernel
theorem d11_33 : decode (mB 11) 33 = .ok (.iinc 2 (-8), 3) := by decide +kernel
theorem d11_36 : decode (mB 11) 36 = .ok (.goto (-33), 3) := by decide +kernel
theorem d11_39 : decode (mB 11) 39 = .ok (.return_, 1) := by decide +kernel
theorem d12_0 : decode (mB 12) 0 = .ok (.iload_n 1, 1) := by decide +kernel
theorem d12_1 : decode (mB 12) 1 = .ok (.ifCond .lt 18, 3) := by decide +kernel
theorem d12_4 : decode (mB 12) 4 = .ok (.iload_n 1, 1) := by decide +kernel
theorem d12_5 : decode (mB 12) 5 = .ok (.bipush 20, 2) := by decide +kernel
theorem d12_7 : decode (mB 12) 7 = .ok (.if_icmp .gt 12, 3) := by decide +kernel
theorem d12_10 : decode (mB 12) 10 = .ok (.aload_n 0, 1) := by decide +kernel
theorem d12_11 : decode (mB 12) 11 = .ok (.getfield 38, 3) := by decide +kernel
theorem d12_14 : decode (mB 12) 14 = .ok (.bipush 20, 2) := by decide +kernel
theorem d12_16 : decode (mB 12) 16 = .ok (.if_icmp .ge 5, 3) := by decide +kernel
theorem d12_19 : decode (mB 12) 19 = .ok (.iconst (-1), 1) := by decide +kernel
theorem d12_20 : decode (mB 12) 20 = .ok (.ireturn, 1) := by decide +kernel
theorem d12_21 : decode (mB 12) 21 = .ok (.aload_n 0, 1) := by decide +kernel
theorem d12_22 : decode (mB 12) 22 = .ok (.aload_n 0, 1) := by decide +kernel
theorem d12_23 : decode (mB 12) 23 = .ok (.getfield 38, 3) := by decide +kernel
theorem d12_26 : decode (mB 12) 26 = .ok (.bipush 20, 2) := by decide +kernel
theorem d12_28 : decode (mB 12) 28 = .ok (.isub, 1) := by decide +kernel
theorem d12_29 : decode (mB 12) 29 = .ok (.iload_n 1, 1) := by decide +kernel
theorem d12_30 : decode (mB 12) 30 = .ok (.iadd, 1) := by decide +kernel
theorem d12_31 : decode (mB 12) 31 = .ok (.putfield 38, 3) := by decide +kernel
theorem d12_34 : decode (mB 12) 34 = .ok (.aload_n 0, 1) := by decide +kernel
theorem d12_35 : decode (mB 12) 35 = .ok (.getfield 38, 3) := by decide +kernel
theorem d12_38 : decode (mB 12) 38 = .ok (.ireturn, 1) := by decide +kernel
theorem d13_0 : decode (mB 13) 0 = .ok (.aload_n 0, 1) := by decide +kernel
theorem d13_1 : decode (mB 13) 1 = .ok (.getfield 45, 3) := by decide +kernel
theorem d13_4 : decode (mB 13) 4 = .ok (.bipush 12, 2) := by decide +kernel
theorem d13_6 : decode (mB 13) 6 = .ok (.if_icmp .lt 5, 3) := by decide +kernel
theorem d13_9 : decode (mB 13) 9 = .ok (.iconst (-1), 1) := by decide +kernel
theorem d13_10 : decode (mB 13) 10 = .ok (.ireturn, 1) := by decide +kernel
theorem d13_11 : decode (mB 13) 11 = .ok (.aload_n 0, 1) := by decide +kernel
theorem d13_12 : decode (mB 13) 12 = .ok (.aload_n 0, 1) := by decide +kernel
theorem d13_13 : decode (mB 13) 13 = .ok (.getfield 16, 3) := by decide +kernel
theorem d13_16 : decode (mB 13) 16 = .ok (.aload_n 0, 1) := by decide +kernel
theorem d13_17 : decode (mB 13) 17 = .ok (.getfield 9, 3) := by decide +kernel
theorem d13_20 : decode (mB 13) 20 = .ok (.aload_n 0, 1) := by decide +kernel
theorem d13_21 : decode (mB 13) 21 = .ok (.getfield 38, 3) := by decide +kernel
theorem d13_24 : decode (mB 13) 24 = .ok (.aload_n 0, 1) := by decide +kernel
theorem d13_25 : decode (mB 13) 25 = .ok (.getfield 22, 3) := by decide +kernel
theorem d13_28 : decode (mB 13) 28 = .ok (.aload_n 0, 1) := by decide +kernel
theorem d13_29 : decode (mB 13) 29 = .ok (.getfield 45, 3) := by decide +kernel
theorem d13_32 : decode (mB 13) 32 = .ok (.aaload, 1) := by decide +kernel
theorem d13_33 : decode (mB 13) 33 = .ok (.invokevirtual 48, 3) := by decide +kernel
theorem d13_36 : decode (mB 13) 36 = .ok (.putfield 27, 3) := by decide +kernel
theorem d13_39 : decode (mB 13) 39 = .ok (.aload_n 0, 1) := by decide +kernel
theorem d13_40 : decode (mB 13) 40 = .ok (.iconst 0, 1) := by decide +kernel
theorem d13_41 : decode (mB 13) 41 = .ok (.putfield 38, 3) := by decide +kernel
theorem d13_44 : decode (mB 13) 44 = .ok (.aload_n 0, 1) := by decide +kernel
theorem d13_45 : decode (mB 13) 45 = .ok (.getfield 27, 3) := by decide +kernel
theorem d13_48 : decode (mB 13) 48 = .ok (.iconst (-1), 1) := by decide +kernel
theorem d13_49 : decode (mB 13) 49 = .ok (.if_icmp .eq 6, 3) := by decide +kernel
theorem d13_52 : decode (mB 13) 52 = .ok (.bipush (-2), 2) := by decide +kernel
theorem d13_54 : decode (mB 13) 54 = .ok (.ireturn, 1) := by decide +kernel
theorem d13_55 : decode (mB 13) 55 = .ok (.aload_n 0, 1) := by decide +kernel
theorem d13_56 : decode (mB 13) 56 = .ok (.dup, 1) := by decide +kernel
theorem d13_57 : decode (mB 13) 57 = .ok (.getfield 45, 3) := by decide +kernel
theorem d13_60 : decode (mB 13) 60 = .ok (.iconst 1, 1) := by decide +kernel
theorem d13_61 : decode (mB 13) 61 = .ok (.iadd, 1) := by decide +kernel
theorem d13_62 : decode (mB 13) 62 = .ok (.putfield 45, 3) := by decide +kernel
theorem d13_65 : decode (mB 13) 65 = .ok (.aload_n 0, 1) := by decide +kernel
theorem d13_66 : decode (mB 13) 66 = .ok (.getfield 45, 3) := by decide +kernel
theorem d13_69 : decode (mB 13) 69 = .ok (.iconst 1, 1) := by decide +kernel
theorem d13_70 : decode (mB 13) 70 = .ok (.isub, 1) := by decide +kernel
theorem d13_71 : decode (mB 13) 71 = .ok (.ireturn, 1) := by decide +kernel
theorem d53_0 : decode (mB 53) 0 = .ok (.aload_n 0, 1) := by decide +kernel
theorem d53_1 : decode (mB 53) 1 = .ok (.getfield 27, 3) := by decide +kernel
theorem d53_4 : decode (mB 53) 4 = .ok (.ireturn, 1) := by decide +kernel
theorem d54_0 : decode (mB 54) 0 = .ok (.aload_n 0, 1) := by decide +kernel
theorem d54_1 : decode (mB 54) 1 = .ok (.iload_n 1, 1) := by decide +kernel
theorem d54_2 : decode (mB 54) 2 = .ok (.invokevirtual 52, 3) := by decide +kernel
theorem d54_5 : decode (mB 54) 5 = .ok (.ifCond .ne 5, 3) := by decide +kernel
theorem d54_8 : decode (mB 54) 8 = .ok (.iconst (-1), 1) := by decide +kernel
theorem d54_9 : decode (mB 54) 9 = .ok (.ireturn, 1) := by decide +kernel
theorem d54_10 : decode (mB 54) 10 = .ok (.iload_n 2, 1) := by decide +kernel
theorem d54_11 : decode (mB 54) 11 = .ok (.tableswitch 55 0 2 #[25, 35, 45], 25) := by decide +kernel
theorem d54_36 : decode (mB 54) 36 = .ok (.aload_n 0, 1) := by decide +kernel
theorem d54_37 : decode (mB 54) 37 = .ok (.getfield 22, 3) := by decide +kernel
theorem d54_40 : decode (mB 54) 40 = .ok (.iload_n 1, 1) := by decide +kernel
theorem d54_41 : decode (mB 54) 41 = .ok (.aaload, 1) := by decide +kernel
theorem d54_42 : decode (mB 54) 42 = .ok (.getfield 56, 3) := by decide +kernel
theorem d54_45 : decode (mB 54) 45 = .ok (.ireturn, 1) := by decide +kernel
theorem d54_46 : decode (mB 54) 46 = .ok (.aload_n 0, 1) := by decide +kernel
theorem d54_47 : decode (mB 54) 47 = .ok (.getfield 22, 3) := by decide +kernel
theorem d54_50 : decode (mB 54) 50 = .ok (.iload_n 1, 1) := by decide +kernel
theorem d54_51 : decode (mB 54) 51 = .ok (.aaload, 1) := by decide +kernel
theorem d54_52 : decode (mB 54) 52 = .ok (.getfield 59, 3) := by decide +kernel
theorem d54_55 : decode (mB 54) 55 = .ok (.ireturn, 1) := by decide +kernel
theorem d54_56 : decode (mB 54) 56 = .ok (.aload_n 0, 1) := by decide +kernel
theorem d54_57 : decode (mB 54) 57 = .ok (.getfield 22, 3) := by decide +kernel
theorem d54_60 : decode (mB 54) 60 = .ok (.iload_n 1, 1) := by decide +kernel
theorem d54_61 : decode (mB 54) 61 = .ok (.aaload, 1) := by decide +kernel
theorem d54_62 : decode (mB 54) 62 = .ok (.getfield 62, 3) := by decide +kernel
theorem d54_65 : decode (mB 54) 65 = .ok (.ireturn, 1) := by decide +kernel
theorem d54_66 : decode (mB 54) 66 = .ok (.iconst (-1), 1) := by decide +kernel
theorem d54_67 : decode (mB 54) 67 = .ok (.ireturn, 1) := by decide +kernel
theorem d56_0 : decode (mB 56) 0 = .ok (.iload_n 1, 1) := by decide +kernel
theorem d56_1 : decode (mB 56) 1 = .ok (.invokestatic 65, 3) := by decide +kernel
theorem d56_4 : decode (mB 56) 4 = .ok (.ifCond .eq 19, 3) := by decide +kernel
theorem d56_7 : decode (mB 56) 7 = .ok (.aload_n 0, 1) := by decide +kernel
theorem d56_8 : decode (mB 56) 8 = .ok (.iload_n 2, 1) := by decide +kernel
theorem d56_9 : decode (mB 56) 9 = .ok (.invokevirtual 52, 3) := by decide +kernel
theorem d56_12 : decode (mB 56) 12 = .ok (.ifCond .eq 11, 3) := by decide +kernel
theorem d56_15 : decode (mB 56) 15 = .ok (.aload_n 0, 1) := by decide +kernel
theorem d56_16 : decode (mB 56) 16 = .ok (.iload_n 1, 1) := by decide +kernel
theorem d56_17 : decode (mB 56) 17 = .ok (.invokevirtual 68, 3) := by decide +kernel
theorem d56_20 : decode (mB 56) 20 = .ok (.ifCond .eq 5, 3) := by decide +kernel
theorem d56_23 : decode (mB 56) 23 = .ok (.iconst (-1), 1) := by decide +kernel
theorem d56_24 : decode (mB 56) 24 = .ok (.ireturn, 1) := by decide +kernel
theorem d56_25 : decode (mB 56) 25 = .ok (.aload_n 0, 1) := by decide +kernel
theorem d56_26 : decode (mB 56) 26 = .ok (.getfield 34, 3) := by decide +kernel
theorem d56_29 : decode (mB 56) 29 = .ok (.getfield 71, 3) := by decide +kernel
theorem d56_32 : decode (mB 56) 32 = .ok (.iload_n 1, 1) := by decide +kernel
theorem d56_33 : decode (mB 56) 33 = .ok (.aaload, 1) := by decide +kernel
theorem d56_34 : decode (mB 56) 34 = .ok (.aload_n 0, 1) := by decide +kernel
theorem d56_35 : decode (mB 56) 35 = .ok (.getfield 22, 3) := by decide +kernel
theorem d56_38 : decode (mB 56) 38 = .ok (.iload_n 2, 1) := by decide +kernel
theorem d56_39 : decode (mB 56) 39 = .ok (.aaload, 1) := by decide +kernel
theorem d56_40 : decode (mB 56) 40 = .ok (.invokevirtual 75, 3) := by decide +kernel
theorem d56_43 : decode (mB 56) 43 = .ok (.iconst 1, 1) := by decide +kernel
theorem d56_44 : decode (mB 56) 44 = .ok (.ireturn, 1) := by decide +kernel
theorem d64_0 : decode (mB 64) 0 = .ok (.aload_n 0, 1) := by decide +kernel
theorem d64_1 : decode (mB 64) 1 = .ok (.iload_n 1, 1) := by decide +kernel
theorem d64_2 : decode (mB 64) 2 = .ok (.invokevirtual 68, 3) := by decide +kernel
theorem d64_5 : decode (mB 64) 5 = .ok (.ifCond .ne 5, 3) := by decide +kernel
theorem d64_8 : decode (mB 64) 8 = .ok (.iconst (-1), 1) := by decide +kernel
theorem d64_9 : decode (mB 64) 9 = .ok (.ireturn, 1) := by decide +kernel
theorem d64_10 : decode (mB 64) 10 = .ok (.aload_n 0, 1) := by decide +kernel
theorem d64_11 : decode (mB 64) 11 = .ok (.getfield 34, 3) := by decide +kernel
theorem d64_14 : decode (mB 64) 14 = .ok (.aload_n 0, 1) := by decide +kernel
theorem d64_15 : decode (mB 64) 15 = .ok (.getfield 34, 3) := by decide +kernel
theorem d64_18 : decode (mB 64) 18 = .ok (.getfield 71, 3) := by decide +kernel
theorem d64_21 : decode (mB 64) 21 = .ok (.iload_n 1, 1) := by decide +kernel
theorem d64_22 : decode (mB 64) 22 = .ok (.aaload, 1) := by decide +kernel
theorem d64_23 : decode (mB 64) 23 = .ok (.invokevirtual 81, 3) := by decide +kernel
theorem d64_26 : decode (mB 64) 26 = .ok (.ireturn, 1) := by decide +kernel
theorem d96_0 : decode (mB 96) 0 = .ok (.iload_n 3, 1) := by decide +kernel
theorem d96_1 : decode (mB 96) 1 = .ok (.ifCond .lt 10, 3) := by decide +kernel
theorem d96_4 : decode (mB 96) 4 = .ok (.iload_n 3, 1) := by decide +kernel
theorem d96_5 : decode (mB 96) 5 = .ok (.sipush 2000, 3) := by decide +kernel
theorem d96_8 : decode (mB 96) 8 = .ok (.if_icmp .le 5, 3) := by decide +kernel
theorem d96_11 : decode (mB 96) 11 = .ok (.iconst (-1), 1) := by decide +kernel
theorem d96_12 : decode (mB 96) 12 = .ok (.ireturn, 1) := by decide +kernel
theorem d96_13 : decode (mB 96) 13 = .ok (.iconst 0, 1) := by decide +kernel
theorem d96_14 : decode (mB 96) 14 = .ok (.istore 4, 2) := by decide +kernel
theorem d96_16 : decode (mB 96) 16 = .ok (.lload_n 1, 1) := by decide +kernel
theorem d96_17 : decode (mB 96) 17 = .ok (.lstore 5, 2) := by decide +kernel
theorem d96_19 : decode (mB 96) 19 = .ok (.iconst 0, 1) := by decide +kernel
theorem d96_20 : decode (mB 96) 20 = .ok (.istore 7, 2) := by decide +kernel
theorem d96_22 : decode (mB 96) 22 = .ok (.iload 7, 2) := by decide +kernel
theorem d96_24 : decode (mB 96) 24 = .ok (.iload_n 3, 1) := by decide +kernel
theorem d96_25 : decode (mB 96) 25 = .ok (.if_icmp .ge 62, 3) := by decide +kernel
theorem d96_28 : decode (mB 96) 28 = .ok (.ldc2_w 85, 3) := by decide +kernel
theorem d96_31 : decode (mB 96) 31 = .ok (.lload 5, 2) := by decide +kernel
theorem d96_33 : decode (mB 96) 33 = .ok (.lmul, 1) := by decide +kernel
theorem d96_34 : decode (mB 96) 34 = .ok (.ldc2_w 87, 3) := by decide +kernel
theorem d96_37 : decode (mB 96) 37 = .ok (.ladd, 1) := by decide +kernel
theorem d96_38 : decode (mB 96) 38 = .ok (.lstore 5, 2) := by decide +kernel
theorem d96_40 : decode (mB 96) 40 = .ok (.lload 5, 2) := by decide +kernel
theorem d96_42 : decode (mB 96) 42 = .ok (.bipush 61, 2) := by decide +kernel
theorem d96_44 : decode (mB 96) 44 = .ok (.lushr, 1) := by decide +kernel
theorem d96_45 : decode (mB 96) 45 = .ok (.l2i, 1) := by decide +kernel
theorem d96_46 : decode (mB 96) 46 = .ok (.istore 8, 2) := by decide +kernel
theorem d96_48 : decode (mB 96) 48 = .ok (.aload_n 0, 1) := by decide +kernel
theorem d96_49 : decode (mB 96) 49 = .ok (.iload 8, 2) := by decide +kernel
theorem d96_51 : decode (mB 96) 51 = .ok (.invokevirtual 68, 3) := by decide +kernel
theorem d96_54 : decode (mB 96) 54 = .ok (.ifCond .eq 27, 3) := by decide +kernel
theorem d96_57 : decode (mB 96) 57 = .ok (.aload_n 0, 1) := by decide +kernel
theorem d96_58 : decode (mB 96) 58 = .ok (.getfield 34, 3) := by decide +kernel
theorem d96_61 : decode (mB 96) 61 = .ok (.aload_n 0, 1) := by decide +kernel
theorem d96_62 : decode (mB 96) 62 = .ok (.getfield 34, 3) := by decide +kernel
theorem d96_65 : decode (mB 96) 65 = .ok (.getfield 71, 3) := by decide +kernel
theorem d96_68 : decode (mB 96) 68 = .ok (.iload 8, 2) := by decide +kernel
theorem d96_70 : decode (mB 96) 70 = .ok (.aaload, 1) := by decide +kernel
theorem d96_71 : decode (mB 96) 71 = .ok (.invokevirtual 81, 3) := by decide +kernel
theorem d96_74 : decode (mB 96) 74 = .ok (.iconst 4, 1) := by decide +kernel
theorem d96_75 : decode (mB 96) 75 = .ok (.if_icmp .eq 6, 3) := by decide +kernel
theorem d96_78 : decode (mB 96) 78 = .ok (.iinc 4 1, 3) := by decide +kernel
theorem d96_81 : decode (mB 96) 81 = .ok (.iinc 7 1, 3) := by decide +kernel
theorem d96_84 : decode (mB 96) 84 = .ok (.goto (-62), 3) := by decide +kernel
theorem d96_87 : decode (mB 96) 87 = .ok (.iload 4, 2) := by decide +kernel
theorem d96_89 : decode (mB 96) 89 = .ok (.ireturn, 1) := by decide +kernel
theorem d97_0 : decode (mB 97) 0 = .ok (.aload_n 0, 1) := by decide +kernel
theorem d97_1 : decode (mB 97) 1 = .ok (.iload_n 1, 1) := by decide +kernel
theorem d97_2 : decode (mB 97) 2 = .ok (.invokevirtual 68, 3) := by decide +kernel
theorem d97_5 : decode (mB 97) 5 = .ok (.ifCond .ne 5, 3) := by decide +kernel
theorem d97_8 : decode (mB 97) 8 = .ok (.iconst (-1), 1) := by decide +kernel
theorem d97_9 : decode (mB 97) 9 = .ok (.ireturn, 1) := by decide +kernel
theorem d97_10 : decode (mB 97) 10 = .ok (.aload_n 0, 1) := by decide +kernel
theorem d97_11 : decode (mB 97) 11 = .ok (.getfield 34, 3) := by decide +kernel
theorem d97_14 : decode (mB 97) 14 = .ok (.getfield 71, 3) := by decide +kernel
theorem d97_17 : decode (mB 97) 17 = .ok (.iload_n 1, 1) := by decide +kernel
theorem d97_18 : decode (mB 97) 18 = .ok (.aaload, 1) := by decide +kernel
theorem d97_19 : decode (mB 97) 19 = .ok (.getfield 89, 3) := by decide +kernel
theorem d97_22 : decode (mB 97) 22 = .ok (.astore 4, 2) := by decide +kernel
theorem d97_24 : decode (mB 97) 24 = .ok (.aload 4, 2) := by decide +kernel
theorem d97_26 : decode (mB 97) 26 = .ok (.bipush 6, 2) := by decide +kernel
theorem d97_28 : decode (mB 97) 28 = .ok (.invokevirtual 93, 3) := by decide +kernel
theorem d97_31 : decode (mB 97) 31 = .ok (.bipush 8, 2) := by decide +kernel
theorem d97_33 : decode (mB 97) 33 = .ok (.if_icmp .lt 5, 3) := by decide +kernel
theorem d97_36 : decode (mB 97) 36 = .ok (.iconst (-1), 1) := by decide +kernel
theorem d97_37 : decode (mB 97) 37 = .ok (.ireturn, 1) := by decide +kernel
theorem d97_38 : decode (mB 97) 38 = .ok (.aload 4, 2) := by decide +kernel
theorem d97_40 : decode (mB 97) 40 = .ok (.bipush 6, 2) := by decide +kernel
theorem d97_42 : decode (mB 97) 42 = .ok (.iconst 0, 1) := by decide +kernel
theorem d97_43 : decode (mB 97) 43 = .ok (.lload_n 2, 1) := by decide +kernel
theorem d97_44 : decode (mB 97) 44 = .ok (.invokevirtual 99, 3) := by decide +kernel
theorem d97_47 : decode (mB 97) 47 = .ok (.aload 4, 2) := by decide +kernel
theorem d97_49 : decode (mB 97) 49 = .ok (.getfield 103, 3) := by decide +kernel
theorem d97_52 : decode (mB 97) 52 = .ok (.ireturn, 1) := by decide +kernel
theorem d99_0 : decode (mB 99) 0 = .ok (.iload_n 1, 1) := by decide +kernel
theorem d99_1 : decode (mB 99) 1 = .ok (.invokestatic 106, 3) := by decide +kernel
theorem d99_4 : decode (mB 99) 4 = .ok (.ifCond .eq 15, 3) := by decide +kernel
theorem d99_7 : decode (mB 99) 7 = .ok (.aload_n 0, 1) := by decide +kernel
theorem d99_8 : decode (mB 99) 8 = .ok (.getfield 34, 3) := by decide +kernel
theorem d99_11 : decode (mB 99) 11 = .ok (.getfield 109, 3) := by decide +kernel
theorem d99_14 : decode (mB 99) 14 = .ok (.iload_n 1, 1) := by decide +kernel
theorem d99_15 : decode (mB 99) 15 = .ok (.baload, 1) := by decide +kernel
theorem d99_16 : decode (mB 99) 16 = .ok (.ifCond .eq 5, 3) := by decide +kernel
theorem d99_19 : decode (mB 99) 19 = .ok (.iconst (-1), 1) := by decide +kernel
theorem d99_20 : decode (mB 99) 20 = .ok (.ireturn, 1) := by decide +kernel
theorem d99_21 : decode (mB 99) 21 = .ok (.aload_n 0, 1) := by decide +kernel
theorem d99_22 : decode (mB 99) 22 = .ok (.getfield 34, 3) := by decide +kernel
theorem d99_25 : decode (mB 99) 25 = .ok (.getfield 109, 3) := by decide +kernel
theorem d99_28 : decode (mB 99) 28 = .ok (.iload_n 1, 1) := by decide +kernel
theorem d99_29 : decode (mB 99) 29 = .ok (.iconst 1, 1) := by decide +kernel
theorem d99_30 : decode (mB 99) 30 = .ok (.bastore, 1) := by decide +kernel
theorem d99_31 : decode (mB 99) 31 = .ok (.aload_n 0, 1) := by decide +kernel
theorem d99_32 : decode (mB 99) 32 = .ok (.getfield 34, 3) := by decide +kernel
theorem d99_35 : decode (mB 99) 35 = .ok (.getfield 113, 3) := by decide +kernel
theorem d99_38 : decode (mB 99) 38 = .ok (.iload_n 1, 1) := by decide +kernel
theorem d99_39 : decode (mB 99) 39 = .ok (.lload_n 2, 1) := by decide +kernel
theorem d99_40 : decode (mB 99) 40 = .ok (.lastore, 1) := by decide +kernel
theorem d99_41 : decode (mB 99) 41 = .ok (.iconst 1, 1) := by decide +kernel
theorem d99_42 : decode (mB 99) 42 = .ok (.ireturn, 1) := by decide +kernel
theorem d101_0 : decode (mB 101) 0 = .ok (.iload_n 1, 1) := by decide +kernel
theorem d101_1 : decode (mB 101) 1 = .ok (.invokestatic 106, 3) := by decide +kernel
theorem d101_4 : decode (mB 101) 4 = .ok (.ifCond .ne 5, 3) := by decide +kernel
theorem d101_7 : decode (mB 101) 7 = .ok (.iconst (-1), 1) := by decide +kernel
theorem d101_8 : decode (mB 101) 8 = .ok (.ireturn, 1) := by decide +kernel
theorem d101_9 : decode (mB 101) 9 = .ok (.aload_n 0, 1) := by decide +kernel
theorem d101_10 : decode (mB 101) 10 = .ok (.getfield 34, 3) := by decide +kernel
theorem d101_13 : decode (mB 101) 13 = .ok (.getfield 109, 3) := by decide +kernel
theorem d101_16 : decode (mB 101) 16 = .ok (.iload_n 1, 1) := by decide +kernel
theorem d101_17 : decode (mB 101) 17 = .ok (.baload, 1) := by decide +kernel
theorem d101_18 : decode (mB 101) 18 = .ok (.ifCond .eq 7, 3) := by decide +kernel
theorem d101_21 : decode (mB 101) 21 = .ok (.iconst 1, 1) := by decide +kernel
theorem d101_22 : decode (mB 101) 22 = .ok (.goto 4, 3) := by decide +kernel
theorem d101_25 : decode (mB 101) 25 = .ok (.iconst 0, 1) := by decide +kernel
theorem d101_26 : decode (mB 101) 26 = .ok (.ireturn, 1) := by decide +kernel
theorem d102_0 : decode (mB 102) 0 = .ok (.iload_n 1, 1) := by decide +kernel
theorem d102_1 : decode (mB 102) 1 = .ok (.invokestatic 106, 3) := by decide +kernel
theorem d102_4 : decode (mB 102) 4 = .ok (.ifCond .eq 15, 3) := by decide +kernel
theorem d102_7 : decode (mB 102) 7 = .ok (.aload_n 0, 1) := by decide +kernel
theorem d102_8 : decode (mB 102) 8 = .ok (.getfield 34, 3) := by decide +kernel
theorem d102_11 : decode (mB 102) 11 = .ok (.getfield 109, 3) := by decide +kernel
theorem d102_14 : decode (mB 102) 14 = .ok (.iload_n 1, 1) := by decide +kernel
theorem d102_15 : decode (mB 102) 15 = .ok (.baload, 1) := by decide +kernel
theorem d102_16 : decode (mB 102) 16 = .ok (.ifCond .ne 5, 3) := by decide +kernel
theorem d102_19 : decode (mB 102) 19 = .ok (.lconst 0, 1) := by decide +kernel
theorem d102_20 : decode (mB 102) 20 = .ok (.lreturn, 1) := by decide +kernel
theorem d102_21 : decode (mB 102) 21 = .ok (.aload_n 0, 1) := by decide +kernel
theorem d102_22 : decode (mB 102) 22 = .ok (.getfield 34, 3) := by decide +kernel
theorem d102_25 : decode (mB 102) 25 = .ok (.getfield 113, 3) := by decide +kernel
theorem d102_28 : decode (mB 102) 28 = .ok (.iload_n 1, 1) := by decide +kernel
theorem d102_29 : decode (mB 102) 29 = .ok (.laload, 1) := by decide +kernel
theorem d102_30 : decode (mB 102) 30 = .ok (.lreturn, 1) := by decide +kernel
theorem d103_0 : decode (mB 103) 0 = .ok (.iload_n 1, 1) := by decide +kernel
theorem d103_1 : decode (mB 103) 1 = .ok (.invokestatic 65, 3) := by decide +kernel
theorem d103_4 : decode (mB 103) 4 = .ok (.ifCond .ne 5, 3) := by decide +kernel
theorem d103_7 : decode (mB 103) 7 = .ok (.iconst (-1), 1) := by decide +kernel
theorem d103_8 : decode (mB 103) 8 = .ok (.ireturn, 1) := by decide +kernel
theorem d103_9 : decode (mB 103) 9 = .ok (.aload_n 0, 1) := by decide +kernel
theorem d103_10 : decode (mB 103) 10 = .ok (.getfield 34, 3) := by decide +kernel
theorem d103_13 : decode (mB 103) 13 = .ok (.getfield 71, 3) := by decide +kernel
theorem d103_16 : decode (mB 103) 16 = .ok (.iload_n 1, 1) := by decide +kernel
theorem d103_17 : decode (mB 103) 17 = .ok (.aaload, 1) := by decide +kernel
theorem d103_18 : decode (mB 103) 18 = .ok (.astore_n 3, 1) := by decide +kernel
theorem d103_19 : decode (mB 103) 19 = .ok (.iload_n 2, 1) := by decide +kernel
theorem d103_20 : decode (mB 103) 20 = .ok (.tableswitch 90 0 6 #[44, 49, 54, 59, 67, 72, 77], 44) := by decide +kernel
theorem d103_64 : decode (mB 103) 64 = .ok (.aload_n 3, 1) := by decide +kernel
theorem d103_65 : decode (mB 103) 65 = .ok (.getfield 117, 3) := by decide +kernel
theorem d103_68 : decode (mB 103) 68 = .ok (.ireturn, 1) := by decide +kernel
theorem d103_69 : decode (mB 103) 69 = .ok (.aload_n 3, 1) := by decide +kernel
theorem d103_70 : decode (mB 103) 70 = .ok (.getfield 120, 3) := by decide +kernel
theorem d103_73 : decode (mB 103) 73 = .ok (.ireturn, 1) := by decide +kernel
theorem d103_74 : decode (mB 103) 74 = .ok (.aload_n 3, 1) := by decide +kernel
theorem d103_75 : decode (mB 103) 75 = .ok (.getfield 123, 3) := by decide +kernel
theorem d103_78 : decode (mB 103) 78 = .ok (.ireturn, 1) := by decide +kernel
theorem d103_79 : decode (mB 103) 79 = .ok (.aload_n 3, 1) := by decide +kernel
theorem d103_80 : decode (mB 103) 80 = .ok (.getfield 89, 3) := by decide +kernel
theorem d103_83 : decode (mB 103) 83 = .ok (.getfield 103, 3) := by decide +kernel
theorem d103_86 : decode (mB 103) 86 = .ok (.ireturn, 1) := by decide +kernel
theorem d103_87 : decode (mB 103) 87 = .ok (.aload_n 3, 1) := by decide +kernel
theorem d103_88 : decode (mB 103) 88 = .ok (.getfield 126, 3) := by decide +kernel
theorem d103_91 : decode (mB 103) 91 = .ok (.ireturn, 1) := by decide +kernel
theorem d103_92 : decode (mB 103) 92 = .ok (.aload_n 3, 1) := by decide +kernel
theorem d103_93 : decode (mB 103) 93 = .ok (.getfield 129, 3) := by decide +kernel
theorem d103_96 : decode (mB 103) 96 = .ok (.ireturn, 1) := by decide +kernel
theorem d103_97 : decode (mB 103) 97 = .ok (.aload_n 3, 1) := by decide +kernel
theorem d103_98 : decode (mB 103) 98 = .ok (.invokevirtual 132, 3) := by decide +kernel
theorem d103_101 : decode (mB 103) 101 = .ok (.ifCond .eq 7, 3) := by decide +kernel
theorem d103_104 : decode (mB 103) 104 = .ok (.iconst 1, 1) := by decide +kernel
theorem d103_105 : decode (mB 103) 105 = .ok (.goto 4, 3) := by decide +kernel
theorem d103_108 : decode (mB 103) 108 = .ok (.iconst 0, 1) := by decide +kernel
theorem d103_109 : decode (mB 103) 109 = .ok (.ireturn, 1) := by decide +kernel
theorem d103_110 : decode (mB 103) 110 = .ok (.iconst (-1), 1) := by decide +kernel
theorem d103_111 : decode (mB 103) 111 = .ok (.ireturn, 1) := by decide +kernel
theorem d105_0 : decode (mB 105) 0 = .ok (.iload_n 1, 1) := by decide +kernel
theorem d105_1 : decode (mB 105) 1 = .ok (.invokestatic 65, 3) := by decide +kernel
theorem d105_4 : decode (mB 105) 4 = .ok (.ifCond .eq 18, 3) := by decide +kernel
theorem d105_7 : decode (mB 105) 7 = .ok (.aload_n 0, 1) := by decide +kernel
theorem d105_8 : decode (mB 105) 8 = .ok (.getfield 34, 3) := by decide +kernel
theorem d105_11 : decode (mB 105) 11 = .ok (.getfield 71, 3) := by decide +kernel
theorem d105_14 : decode (mB 105) 14 = .ok (.iload_n 1, 1) := by decide +kernel
theorem d105_15 : decode (mB 105) 15 = .ok (.aaload, 1) := by decide +kernel
theorem d105_16 : decode (mB 105) 16 = .ok (.getfield 136, 3) := by decide +kernel
theorem d105_19 : decode (mB 105) 19 = .ok (.goto 4, 3) := by decide +kernel
theorem d105_22 : decode (mB 105) 22 = .ok (.lconst 0, 1) := by decide +kernel
theorem d105_23 : decode (mB 105) 23 = .ok (.lreturn, 1) := by decide +kernel
theorem d106_0 : decode (mB 106) 0 = .ok (.iload_n 1, 1) := by decide +kernel
theorem d106_1 : decode (mB 106) 1 = .ok (.invokestatic 65, 3) := by decide +kernel
theorem d106_4 : decode (mB 106) 4 = .ok (.ifCond .eq 13, 3) := by decide +kernel
theorem d106_7 : decode (mB 106) 7 = .ok (.iload_n 2, 1) := by decide +kernel
theorem d106_8 : decode (mB 106) 8 = .ok (.ifCond .lt 9, 3) := by decide +kernel
theorem d106_11 : decode (mB 106) 11 = .ok (.iload_n 2, 1) := by decide +kernel
theorem d106_12 : decode (mB 106) 12 = .ok (.bipush 10, 2) := by decide +kernel
theorem d106_14 : decode (mB 106) 14 = .ok (.if_icmp .lt 5, 3) := by decide +kernel
theorem d106_17 : decode (mB 106) 17 = .ok (.lconst 0, 1) := by decide +kernel
theorem d106_18 : decode (mB 106) 18 = .ok (.lreturn, 1) := by decide +kernel
theorem d106_19 : decode (mB 106) 19 = .ok (.aload_n 0, 1) := by decide +kernel
theorem d106_20 : decode (mB 106) 20 = .ok (.getfield 34, 3) := by decide +kernel
theorem d106_23 : decode (mB 106) 23 = .ok (.getfield 71, 3) := by decide +kernel
theorem d106_26 : decode (mB 106) 26 = .ok (.iload_n 1, 1) := by decide +kernel
theorem d106_27 : decode (mB 106) 27 = .ok (.aaload, 1) := by decide +kernel
theorem d106_28 : decode (mB 106) 28 = .ok (.getfield 140, 3) := by decide +kernel
theorem d106_31 : decode (mB 106) 31 = .ok (.iload_n 2, 1) := by decide +kernel
theorem d106_32 : decode (mB 106) 32 = .ok (.laload, 1) := by decide +kernel
theorem d106_33 : decode (mB 106) 33 = .ok (.lreturn, 1) := by decide +kernel
theorem d107_0 : decode (mB 107) 0 = .ok (.aload_n 0, 1) := by decide +kernel
theorem d107_1 : decode (mB 107) 1 = .ok (.iload_n 1, 1) := by decide +kernel
theorem d107_2 : decode (mB 107) 2 = .ok (.iload_n 2, 1) := by decide +kernel
theorem d107_3 : decode (mB 107) 3 = .ok (.invokevirtual 143, 3) := by decide +kernel
theorem d107_6 : decode (mB 107) 6 = .ok (.ifCond .ne 5, 3) := by decide +kernel
theorem d107_9 : decode (mB 107) 9 = .ok (.iconst (-1), 1) := by decide +kernel
theorem d107_10 : decode (mB 107) 10 = .ok (.ireturn, 1) := by decide +kernel
theorem d107_11 : decode (mB 107) 11 = .ok (.aload_n 0, 1) := by decide +kernel
theorem d107_12 : decode (mB 107) 12 = .ok (.getfield 34, 3) := by decide +kernel
theorem d107_15 : decode (mB 107) 15 = .ok (.getfield 71, 3) := by decide +kernel
theorem d107_18 : decode (mB 107) 18 = .ok (.iload_n 1, 1) := by decide +kernel
theorem d107_19 : decode (mB 107) 19 = .ok (.aaload, 1) := by decide +kernel
theorem d107_20 : decode (mB 107) 20 = .ok (.getfield 89, 3) := by decide +kernel
theorem d107_23 : decode (mB 107) 23 = .ok (.astore 4, 2) := by decide +kernel
theorem d107_25 : decode (mB 107) 25 = .ok (.iload_n 3, 1) := by decide +kernel
theorem d107_26 : decode (mB 107) 26 = .ok (.lookupswitch 42 #[(0, 26), (1, 34)], 26) := by decide +kernel
theorem d107_52 : decode (mB 107) 52 = .ok (.aload 4, 2) := by decide +kernel
theorem d107_54 : decode (mB 107) 54 = .ok (.getfield 147, 3) := by decide +kernel
theorem d107_57 : decode (mB 107) 57 = .ok (.iload_n 2, 1) := by decide +kernel
theorem d107_58 : decode (mB 107) 58 = .ok (.iaload, 1) := by decide +kernel
theorem d107_59 : decode (mB 107) 59 = .ok (.ireturn, 1) := by decide +kernel
theorem d107_60 : decode (mB 107) 60 = .ok (.aload 4, 2) := by decide +kernel
theorem d107_62 : decode (mB 107) 62 = .ok (.getfield 150, 3) := by decide +kernel
theorem d107_65 : decode (mB 107) 65 = .ok (.iload_n 2, 1) := by decide +kernel
theorem d107_66 : decode (mB 107) 66 = .ok (.iaload, 1) := by decide +kernel
theorem d107_67 : decode (mB 107) 67 = .ok (.ireturn, 1) := by decide +kernel
theorem d107_68 : decode (mB 107) 68 = .ok (.iconst (-1), 1) := by decide +kernel
theorem d107_69 : decode (mB 107) 69 = .ok (.ireturn, 1) := by decide +kernel
theorem d109_0 : decode (mB 109) 0 = .ok (.aload_n 0, 1) := by decide +kernel
theorem d109_1 : decode (mB 109) 1 = .ok (.iload_n 1, 1) := by decide +kernel
theorem d109_2 : decode (mB 109) 2 = .ok (.iload_n 2, 1) := by decide +kernel
theorem d109_3 : decode (mB 109) 3 = .ok (.invokevirtual 143, 3) := by decide +kernel
theorem d109_6 : decode (mB 109) 6 = .ok (.ifCond .eq 23, 3) := by decide +kernel
theorem d109_9 : decode (mB 109) 9 = .ok (.aload_n 0, 1) := by decide +kernel
theorem d109_10 : decode (mB 109) 10 = .ok (.getfield 34, 3) := by decide +kernel
theorem d109_13 : decode (mB 109) 13 = .ok (.getfield 71, 3) := by decide +kernel
theorem d109_16 : decode (mB 109) 16 = .ok (.iload_n 1, 1) := by decide +kernel
theorem d109_17 : decode (mB 109) 17 = .ok (.aaload, 1) := by decide +kernel
theorem d109_18 : decode (mB 109) 18 = .ok (.getfield 89, 3) := by decide +kernel
theorem d109_21 : decode (mB 109) 21 = .ok (.getfield 153, 3) := by decide +kernel
theorem d109_24 : decode (mB 109) 24 = .ok (.iload_n 2, 1) := by decide +kernel
theorem d109_25 : decode (mB 109) 25 = .ok (.laload, 1) := by decide +kernel
theorem d109_26 : decode (mB 109) 26 = .ok (.goto 4, 3) := by decide +kernel
theorem d109_29 : decode (mB 109) 29 = .ok (.lconst 0, 1) := by decide +kernel
theorem d109_30 : decode (mB 109) 30 = .ok (.lreturn, 1) := by decide +kernel
theorem d110_0 : decode (mB 110) 0 = .ok (.aload_n 0, 1) := by decide +kernel
theorem d110_1 : decode (mB 110) 1 = .ok (.getfield 34, 3) := by decide +kernel
theorem d110_4 : decode (mB 110) 4 = .ok (.invokevirtual 156, 3) := by decide +kernel
theorem d110_7 : decode (mB 110) 7 = .ok (.ifCond .eq 7, 3) := by decide +kernel
theorem d110_10 : decode (mB 110) 10 = .ok (.iconst 0, 1) := by decide +kernel
theorem d110_11 : decode (mB 110) 11 = .ok (.goto 4, 3) := by decide +kernel
theorem d110_14 : decode (mB 110) 14 = .ok (.iconst 1, 1) := by decide +kernel
theorem d110_15 : decode (mB 110) 15 = .ok (.ireturn, 1) := by decide +kernel
theorem d116_0 : decode (mB 116) 0 = .ok (.aload_n 0, 1) := by decide +kernel
theorem d116_1 : decode (mB 116) 1 = .ok (.getfield 34, 3) := by decide +kernel
theorem d116_4 : decode (mB 116) 4 = .ok (.getfield 159, 3) := by decide +kernel
theorem d116_7 : decode (mB 116) 7 = .ok (.getfield 163, 3) := by decide +kernel
theorem d116_10 : decode (mB 116) 10 = .ok (.ireturn, 1) := by decide +kernel
theorem d117_0 : decode (mB 117) 0 = .ok (.aload_n 0, 1) := by decide +kernel
theorem d117_1 : decode (mB 117) 1 = .ok (.getfield 34, 3) := by decide +kernel
theorem d117_4 : decode (mB 117) 4 = .ok (.getfield 159, 3) := by decide +kernel
theorem d117_7 : decode (mB 117) 7 = .ok (.getfield 168, 3) := by decide +kernel
theorem d117_10 : decode (mB 117) 10 = .ok (.ireturn, 1) := by decide +kernel
theorem d118_0 : decode (mB 118) 0 = .ok (.aload_n 0, 1) := by decide +kernel
theorem d118_1 : decode (mB 118) 1 = .ok (.iload_n 1, 1) := by decide +kernel
theorem d118_2 : decode (mB 118) 2 = .ok (.invokevirtual 169, 3) := by decide +kernel
theorem d118_5 : decode (mB 118) 5 = .ok (.ifCond .ne 5, 3) := by decide +kernel
theorem d118_8 : decode (mB 118) 8 = .ok (.iconst (-1), 1) := by decide +kernel
theorem d118_9 : decode (mB 118) 9 = .ok (.ireturn, 1) := by decide +kernel
theorem d118_10 : decode (mB 118) 10 = .ok (.iload_n 2, 1) := by decide +kernel
theorem d118_11 : decode (mB 118) 11 = .ok (.tableswitch 64 0 2 #[25, 38, 51], 25) := by decide +kernel
theorem d118_36 : decode (mB 118) 36 = .ok (.aload_n 0, 1) := by decide +kernel
theorem d118_37 : decode (mB 118) 37 = .ok (.getfield 34, 3) := by decide +kernel
theorem d118_40 : decode (mB 118) 40 = .ok (.getfield 159, 3) := by decide +kernel
theorem d118_43 : decode (mB 118) 43 = .ok (.getfield 172, 3) := by decide +kernel
theorem d118_46 : decode (mB 118) 46 = .ok (.iload_n 1, 1) := by decide +kernel
theorem d118_47 : decode (mB 118) 47 = .ok (.iaload, 1) := by decide +kernel
theorem d118_48 : decode (mB 118) 48 = .ok (.ireturn, 1) := by decide +kernel
theorem d118_49 : decode (mB 118) 49 = .ok (.aload_n 0, 1) := by decide +kernel
theorem d118_50 : decode (mB 118) 50 = .ok (.getfield 34, 3) := by decide +kernel
theorem d118_53 : decode (mB 118) 53 = .ok (.getfield 159, 3) := by decide +kernel
theorem d118_56 : decode (mB 118) 56 = .ok (.getfield 175, 3) := by decide +kernel
theorem d118_59 : decode (mB 118) 59 = .ok (.iload_n 1, 1) := by decide +kernel
theorem d118_60 : decode (mB 118) 60 = .ok (.iaload, 1) := by decide +kernel
theorem d118_61 : decode (mB 118) 61 = .ok (.ireturn, 1) := by decide +kernel
theorem d118_62 : decode (mB 118) 62 = .ok (.aload_n 0, 1) := by decide +kernel
theorem d118_63 : decode (mB 118) 63 = .ok (.getfield 34, 3) := by decide +kernel
theorem d118_66 : decode (mB 118) 66 = .ok (.getfield 159, 3) := by decide +kernel
theorem d118_69 : decode (mB 118) 69 = .ok (.getfield 178, 3) := by decide +kernel
theorem d118_72 : decode (mB 118) 72 = .ok (.iload_n 1, 1) := by decide +kernel
theorem d118_73 : decode (mB 118) 73 = .ok (.iaload, 1) := by decide +kernel
theorem d118_74 : decode (mB 118) 74 = .ok (.ireturn, 1) := by decide +kernel
theorem d118_75 : decode (mB 118) 75 = .ok (.iconst (-1), 1) := by decide +kernel
theorem d118_76 : decode (mB 118) 76 = .ok (.ireturn, 1) := by decide +kernel
theorem d120_0 : decode (mB 120) 0 = .ok (.aload_n 0, 1) := by decide +kernel
theorem d120_1 : decode (mB 120) 1 = .ok (.iload_n 1, 1) := by decide +kernel
theorem d120_2 : decode (mB 120) 2 = .ok (.invokevirtual 169, 3) := by decide +kernel
theorem d120_5 : decode (mB 120) 5 = .ok (.ifCond .eq 18, 3) := by decide +kernel
theorem d120_8 : decode (mB 120) 8 = .ok (.aload_n 0, 1) := by decide +kernel
theorem d120_9 : decode (mB 120) 9 = .ok (.getfield 34, 3) := by decide +kernel
theorem d120_12 : decode (mB 120) 12 = .ok (.getfield 159, 3) := by decide +kernel
theorem d120_15 : decode (mB 120) 15 = .ok (.getfield 181, 3) := by decide +kernel
theorem d120_18 : decode (mB 120) 18 = .ok (.iload_n 1, 1) := by decide +kernel
theorem d120_19 : decode (mB 120) 19 = .ok (.laload, 1) := by decide +kernel
theorem d120_20 : decode (mB 120) 20 = .ok (.goto 4, 3) := by decide +kernel
theorem d120_23 : decode (mB 120) 23 = .ok (.lconst 0, 1) := by decide +kernel
theorem d120_24 : decode (mB 120) 24 = .ok (.lreturn, 1) := by decide +kernel
theorem d121_0 : decode (mB 121) 0 = .ok (.aload_n 0, 1) := by decide +kernel
theorem d121_1 : decode (mB 121) 1 = .ok (.getfield 34, 3) := by decide +kernel
theorem d121_4 : decode (mB 121) 4 = .ok (.getfield 159, 3) := by decide +kernel
theorem d121_7 : decode (mB 121) 7 = .ok (.getfield 168, 3) := by decide +kernel
theorem d121_10 : decode (mB 121) 10 = .ok (.istore_n 1, 1) := by decide +kernel
theorem d121_11 : decode (mB 121) 11 = .ok (.aload_n 0, 1) := by decide +kernel
theorem d121_12 : decode (mB 121) 12 = .ok (.getfield 34, 3) := by decide +kernel
theorem d121_15 : decode (mB 121) 15 = .ok (.invokevirtual 182, 3) := by decide +kernel
theorem d121_18 : decode (mB 121) 18 = .ok (.iload_n 1, 1) := by decide +kernel
theorem d121_19 : decode (mB 121) 19 = .ok (.ireturn, 1) := by decide +kernel
theorem d55_0 : decode (mB 55) 0 = .ok (.iload_n 1, 1) := by decide +kernel
theorem d55_1 : decode (mB 55) 1 = .ok (.ifCond .lt 15, 3) := by decide +kernel
theorem d55_4 : decode (mB 55) 4 = .ok (.iload_n 1, 1) := by decide +kernel
theorem d55_5 : decode (mB 55) 5 = .ok (.aload_n 0, 1) := by decide +kernel
theorem d55_6 : decode (mB 55) 6 = .ok (.getfield 45, 3) := by decide +kernel
theorem d55_9 : decode (mB 55) 9 = .ok (.if_icmp .ge 7, 3) := by decide +kernel
theorem d55_12 : decode (mB 55) 12 = .ok (.iconst 1, 1) := by decide +kernel
theorem d55_13 : decode (mB 55) 13 = .ok (.goto 4, 3) := by decide +kernel
theorem d55_16 : decode (mB 55) 16 = .ok (.iconst 0, 1) := by decide +kernel
theorem d55_17 : decode (mB 55) 17 = .ok (.ireturn, 1) := by decide +kernel
theorem d57_0 : decode (mB 57) 0 = .ok (.iload_n 0, 1) := by decide +kernel
theorem d57_1 : decode (mB 57) 1 = .ok (.ifCond .lt 13, 3) := by decide +kernel
theorem d57_4 : decode (mB 57) 4 = .ok (.iload_n 0, 1) := by decide +kernel
theorem d57_5 : decode (mB 57) 5 = .ok (.bipush 6, 2) := by decide +kernel
theorem d57_7 : decode (mB 57) 7 = .ok (.if_icmp .ge 7, 3) := by decide +kernel
theorem d57_10 : decode (mB 57) 10 = .ok (.iconst 1, 1) := by decide +kernel
theorem d57_11 : decode (mB 57) 11 = .ok (.goto 4, 3) := by decide +kernel
theorem d57_14 : decode (mB 57) 14 = .ok (.iconst 0, 1) := by decide +kernel
theorem d57_15 : decode (mB 57) 15 = .ok (.ireturn, 1) := by decide +kernel
theorem d58_0 : decode (mB 58) 0 = .ok (.iload_n 1, 1) := by decide +kernel
theorem d58_1 : decode (mB 58) 1 = .ok (.invokestatic 65, 3) := by decide +kernel
theorem d58_4 : decode (mB 58) 4 = .ok (.ifCond .eq 23, 3) := by decide +kernel
theorem d58_7 : decode (mB 58) 7 = .ok (.aload_n 0, 1) := by decide +kernel
theorem d58_8 : decode (mB 58) 8 = .ok (.getfield 34, 3) := by decide +kernel
theorem d58_11 : decode (mB 58) 11 = .ok (.getfield 71, 3) := by decide +kernel
theorem d58_14 : decode (mB 58) 14 = .ok (.iload_n 1, 1) := by decide +kernel
theorem d58_15 : decode (mB 58) 15 = .ok (.aaload, 1) := by decide +kernel
theorem d58_16 : decode (mB 58) 16 = .ok (.getfield 117, 3) := by decide +kernel
theorem d58_19 : decode (mB 58) 19 = .ok (.iconst 1, 1) := by decide +kernel
theorem d58_20 : decode (mB 58) 20 = .ok (.if_icmp .ne 7, 3) := by decide +kernel
theorem d58_23 : decode (mB 58) 23 = .ok (.iconst 1, 1) := by decide +kernel
theorem d58_24 : decode (mB 58) 24 = .ok (.goto 4, 3) := by decide +kernel
theorem d58_27 : decode (mB 58) 27 = .ok (.iconst 0, 1) := by decide +kernel
theorem d58_28 : decode (mB 58) 28 = .ok (.ireturn, 1) := by decide +kernel
theorem d100_0 : decode (mB 100) 0 = .ok (.iload_n 0, 1) := by decide +kernel
theorem d100_1 : decode (mB 100) 1 = .ok (.ifCond .lt 13, 3) := by decide +kernel
theorem d100_4 : decode (mB 100) 4 = .ok (.iload_n 0, 1) := by decide +kernel
theorem d100_5 : decode (mB 100) 5 = .ok (.bipush 8, 2) := by decide +kernel
theorem d100_7 : decode (mB 100) 7 = .ok (.if_icmp .ge 7, 3) := by decide +kernel
theorem d100_10 : decode (mB 100) 10 = .ok (.iconst 1, 1) := by decide +kernel
theorem d100_11 : decode (mB 100) 11 = .ok (.goto 4, 3) := by decide +kernel
theorem d100_14 : decode (mB 100) 14 = .ok (.iconst 0, 1) := by decide +kernel
theorem d100_15 : decode (mB 100) 15 = .ok (.ireturn, 1) := by decide +kernel
theorem d108_0 : decode (mB 108) 0 = .ok (.iload_n 1, 1) := by decide +kernel
theorem d108_1 : decode (mB 108) 1 = .ok (.invokestatic 65, 3) := by decide +kernel
theorem d108_4 : decode (mB 108) 4 = .ok (.ifCond .eq 30, 3) := by decide +kernel
theorem d108_7 : decode (mB 108) 7 = .ok (.iload_n 2, 1) := by decide +kernel
theorem d108_8 : decode (mB 108) 8 = .ok (.ifCond .lt 26, 3) := by decide +kernel
theorem d108_11 : decode (mB 108) 11 = .ok (.iload_n 2, 1) := by decide +kernel
theorem d108_12 : decode (mB 108) 12 = .ok (.aload_n 0, 1) := by decide +kernel
theorem d108_13 : decode (mB 108) 13 = .ok (.getfield 34, 3) := by decide +kernel
theorem d108_16 : decode (mB 108) 16 = .ok (.getfield 71, 3) := by decide +kernel
theorem d108_19 : decode (mB 108) 19 = .ok (.iload_n 1, 1) := by decide +kernel
theorem d108_20 : decode (mB 108) 20 = .ok (.aaload, 1) := by decide +kernel
theorem d108_21 : decode (mB 108) 21 = .ok (.getfield 89, 3) := by decide +kernel
theorem d108_24 : decode (mB 108) 24 = .ok (.getfield 103, 3) := by decide +kernel
theorem d108_27 : decode (mB 108) 27 = .ok (.if_icmp .ge 7, 3) := by decide +kernel
theorem d108_30 : decode (mB 108) 30 = .ok (.iconst 1, 1) := by decide +kernel
theorem d108_31 : decode (mB 108) 31 = .ok (.goto 4, 3) := by decide +kernel
theorem d108_34 : decode (mB 108) 34 = .ok (.iconst 0, 1) := by decide +kernel
theorem d108_35 : decode (mB 108) 35 = .ok (.ireturn, 1) := by decide +kernel
theorem d119_0 : decode (mB 119) 0 = .ok (.iload_n 1, 1) := by decide +kernel
theorem d119_1 : decode (mB 119) 1 = .ok (.ifCond .lt 21, 3) := by decide +kernel
theorem d119_4 : decode (mB 119) 4 = .ok (.iload_n 1, 1) := by decide +kernel
theorem d119_5 : decode (mB 119) 5 = .ok (.aload_n 0, 1) := by decide +kernel
theorem d119_6 : decode (mB 119) 6 = .ok (.getfield 34, 3) := by decide +kernel
theorem d119_9 : decode (mB 119) 9 = .ok (.getfield 159, 3) := by decide +kernel
theorem d119_12 : decode (mB 119) 12 = .ok (.getfield 168, 3) := by decide +kernel
theorem d119_15 : decode (mB 119) 15 = .ok (.if_icmp .ge 7, 3) := by decide +kernel
theorem d119_18 : decode (mB 119) 18 = .ok (.iconst 1, 1) := by decide +kernel
theorem d119_19 : decode (mB 119) 19 = .ok (.goto 4, 3) := by decide +kernel
theorem d119_22 : decode (mB 119) 22 = .ok (.iconst 0, 1) := by decide +kernel
theorem d119_23 : decode (mB 119) 23 = .ok (.ireturn, 1) := by decide +kernel
theorem d123_0 : decode (mB 123) 0 = .ok (.aload_n 0, 1) := by decide +kernel
theorem d123_1 : decode (mB 123) 1 = .ok (.invokespecial 1, 3) := by decide +kernel
theorem d123_4 : decode (mB 123) 4 = .ok (.aload_n 0, 1) := by decide +kernel
theorem d123_5 : decode (mB 123) 5 = .ok (.sipush 800, 3) := by decide +kernel
theorem d123_8 : decode (mB 123) 8 = .ok (.newarray .byte, 2) := by decide +kernel
theorem d123_10 : decode (mB 123) 10 = .ok (.putfield 7, 3) := by decide +kernel
theorem d123_13 : decode (mB 123) 13 = .ok (.aload_n 0, 1) := by decide +kernel
theorem d123_14 : decode (mB 123) 14 = .ok (.iconst (-1), 1) := by decide +kernel
theorem d123_15 : decode (mB 123) 15 = .ok (.putfield 13, 3) := by decide +kernel
theorem d123_18 : decode (mB 123) 18 = .ok (.aload_n 0, 1) := by decide +kernel
theorem d123_19 : decode (mB 123) 19 = .ok (.bipush 12, 2) := by decide +kernel
theorem d123_21 : decode (mB 123) 21 = .ok (.newarray .int, 2) := by decide +kernel
theorem d123_23 : decode (mB 123) 23 = .ok (.putfield 17, 3) := by decide +kernel
theorem d123_26 : decode (mB 123) 26 = .ok (.aload_n 0, 1) := by decide +kernel
theorem d123_27 : decode (mB 123) 27 = .ok (.bipush 12, 2) := by decide +kernel
theorem d123_29 : decode (mB 123) 29 = .ok (.newarray .int, 2) := by decide +kernel
theorem d123_31 : decode (mB 123) 31 = .ok (.putfield 21, 3) := by decide +kernel
theorem d123_34 : decode (mB 123) 34 = .ok (.aload_n 0, 1) := by decide +kernel
theorem d123_35 : decode (mB 123) 35 = .ok (.bipush 12, 2) := by decide +kernel
theorem d123_37 : decode (mB 123) 37 = .ok (.newarray .int, 2) := by decide +kernel
theorem d123_39 : decode (mB 123) 39 = .ok (.putfield 24, 3) := by decide +kernel
theorem d123_42 : decode (mB 123) 42 = .ok (.aload_n 0, 1) := by decide +kernel
theorem d123_43 : decode (mB 123) 43 = .ok (.bipush 12, 2) := by decide +kernel
theorem d123_45 : decode (mB 123) 45 = .ok (.newarray .int, 2) := by decide +kernel
theorem d123_47 : decode (mB 123) 47 = .ok (.putfield 27, 3) := by decide +kernel
theorem d123_50 : decode (mB 123) 50 = .ok (.aload_n 0, 1) := by decide +kernel
theorem d123_51 : decode (mB 123) 51 = .ok (.bipush 12, 2) := by decide +kernel
theorem d123_53 : decode (mB 123) 53 = .ok (.newarray .int, 2) := by decide +kernel
theorem d123_55 : decode (mB 123) 55 = .ok (.putfield 30, 3) := by decide +kernel
theorem d123_58 : decode (mB 123) 58 = .ok (.aload_n 0, 1) := by decide +kernel
theorem d123_59 : decode (mB 123) 59 = .ok (.sipush 480, 3) := by decide +kernel
theorem d123_62 : decode (mB 123) 62 = .ok (.newarray .int, 2) := by decide +kernel
theorem d123_64 : decode (mB 123) 64 = .ok (.putfield 33, 3) := by decide +kernel
theorem d123_67 : decode (mB 123) 67 = .ok (.aload_n 0, 1) := by decide +kernel
theorem d123_68 : decode (mB 123) 68 = .ok (.sipush 480, 3) := by decide +kernel
theorem d123_71 : decode (mB 123) 71 = .ok (.newarray .int, 2) := by decide +kernel
theorem d123_73 : decode (mB 123) 73 = .ok (.putfield 36, 3) := by decide +kernel
theorem d123_76 : decode (mB 123) 76 = .ok (.aload_n 0, 1) := by decide +kernel
theorem d123_77 : decode (mB 123) 77 = .ok (.sipush 480, 3) := by decide +kernel
theorem d123_80 : decode (mB 123) 80 = .ok (.newarray .int, 2) := by decide +kernel
theorem d123_82 : decode (mB 123) 82 = .ok (.putfield 39, 3) := by decide +kernel
theorem d123_85 : decode (mB 123) 85 = .ok (.aload_n 0, 1) := by decide +kernel
theorem d123_86 : decode (mB 123) 86 = .ok (.sipush 1440, 3) := by decide +kernel
theorem d123_89 : decode (mB 123) 89 = .ok (.newarray .int, 2) := by decide +kernel
theorem d123_91 : decode (mB 123) 91 = .ok (.putfield 42, 3) := by decide +kernel
theorem d123_94 : decode (mB 123) 94 = .ok (.aload_n 0, 1) := by decide +kernel
theorem d123_95 : decode (mB 123) 95 = .ok (.sipush 1440, 3) := by decide +kernel
theorem d123_98 : decode (mB 123) 98 = .ok (.newarray .boolean, 2) := by decide +kernel
theorem d123_100 : decode (mB 123) 100 = .ok (.putfield 45, 3) := by decide +kernel
theorem d123_103 : decode (mB 123) 103 = .ok (.aload_n 0, 1) := by decide +kernel
theorem d123_104 : decode (mB 123) 104 = .ok (.sipush 480, 3) := by decide +kernel
theorem d123_107 : decode (mB 123) 107 = .ok (.newarray .int, 2) := by decide +kernel
theorem d123_109 : decode (mB 123) 109 = .ok (.putfield 49, 3) := by decide +kernel
theorem d123_112 : decode (mB 123) 112 = .ok (.aload_n 0, 1) := by decide +kernel
theorem d123_113 : decode (mB 123) 113 = .ok (.sipush 480, 3) := by decide +kernel
theorem d123_116 : decode (mB 123) 116 = .ok (.newarray .int, 2) := by decide +kernel
theorem d123_118 : decode (mB 123) 118 = .ok (.putfield 52, 3) := by decide +kernel
theorem d123_121 : decode (mB 123) 121 = .ok (.aload_n 0, 1) := by decide +kernel
theorem d123_122 : decode (mB 123) 122 = .ok (.sipush 480, 3) := by decide +kernel
theorem d123_125 : decode (mB 123) 125 = .ok (.newarray .int, 2) := by decide +kernel
theorem d123_127 : decode (mB 123) 127 = .ok (.putfield 55, 3) := by decide +kernel
theorem d123_130 : decode (mB 123) 130 = .ok (.aload_n 0, 1) := by decide +kernel
theorem d123_131 : decode (mB 123) 131 = .ok (.sipush 2400, 3) := by decide +kernel
theorem d123_134 : decode (mB 123) 134 = .ok (.newarray .int, 2) := by decide +kernel
theorem d123_136 : decode (mB 123) 136 = .ok (.putfield 58, 3) := by decide +kernel
theorem d123_139 : decode (mB 123) 139 = .ok (.aload_n 0, 1) := by decide +kernel
theorem d123_140 : decode (mB 123) 140 = .ok (.sipush 2400, 3) := by decide +kernel
theorem d123_143 : decode (mB 123) 143 = .ok (.newarray .int, 2) := by decide +kernel
theorem d123_145 : decode (mB 123) 145 = .ok (.putfield 61, 3) := by decide +kernel
theorem d123_148 : decode (mB 123) 148 = .ok (.aload_n 0, 1) := by decide +kernel
theorem d123_149 : decode (mB 123) 149 = .ok (.sipush 2400, 3) := by decide +kernel
theorem d123_152 : decode (mB 123) 152 = .ok (.newarray .long, 2) := by decide +kernel
theorem d123_154 : decode (mB 123) 154 = .ok (.putfield 64, 3) := by decide +kernel
theorem d123_157 : decode (mB 123) 157 = .ok (.aload_n 0, 1) := by decide +kernel
theorem d123_158 : decode (mB 123) 158 = .ok (.bipush 64, 2) := by decide +kernel
theorem d123_160 : decode (mB 123) 160 = .ok (.newarray .int, 2) := by decide +kernel
theorem d123_162 : decode (mB 123) 162 = .ok (.putfield 68, 3) := by decide +kernel
theorem d123_165 : decode (mB 123) 165 = .ok (.aload_n 0, 1) := by decide +kernel
theorem d123_166 : decode (mB 123) 166 = .ok (.bipush 16, 2) := by decide +kernel
theorem d123_168 : decode (mB 123) 168 = .ok (.newarray .boolean, 2) := by decide +kernel
theorem d123_170 : decode (mB 123) 170 = .ok (.putfield 71, 3) := by decide +kernel
theorem d123_173 : decode (mB 123) 173 = .ok (.aload_n 0, 1) := by decide +kernel
theorem d123_174 : decode (mB 123) 174 = .ok (.bipush 10, 2) := by decide +kernel
theorem d123_176 : decode (mB 123) 176 = .ok (.newarray .int, 2) := by decide +kernel
theorem d123_178 : decode (mB 123) 178 = .ok (.putfield 74, 3) := by decide +kernel
theorem d123_181 : decode (mB 123) 181 = .ok (.aload_n 0, 1) := by decide +kernel
theorem d123_182 : decode (mB 123) 182 = .ok (.bipush 10, 2) := by decide +kernel
theorem d123_184 : decode (mB 123) 184 = .ok (.newarray .int, 2) := by decide +kernel
theorem d123_186 : decode (mB 123) 186 = .ok (.putfield 77, 3) := by decide +kernel
theorem d123_189 : decode (mB 123) 189 = .ok (.aload_n 0, 1) := by decide +kernel
theorem d123_190 : decode (mB 123) 190 = .ok (.bipush 10, 2) := by decide +kernel
theorem d123_192 : decode (mB 123) 192 = .ok (.newarray .int, 2) := by decide +kernel
theorem d123_194 : decode (mB 123) 194 = .ok (.putfield 80, 3) := by decide +kernel
theorem d123_197 : decode (mB 123) 197 = .ok (.aload_n 0, 1) := by decide +kernel
theorem d123_198 : decode (mB 123) 198 = .ok (.bipush 8, 2) := by decide +kernel
theorem d123_200 : decode (mB 123) 200 = .ok (.newarray .boolean, 2) := by decide +kernel
theorem d123_202 : decode (mB 123) 202 = .ok (.putfield 83, 3) := by decide +kernel
theorem d123_205 : decode (mB 123) 205 = .ok (.aload_n 0, 1) := by decide +kernel
theorem d123_206 : decode (mB 123) 206 = .ok (.bipush 8, 2) := by decide +kernel
theorem d123_208 : decode (mB 123) 208 = .ok (.newarray .long, 2) := by decide +kernel
theorem d123_210 : decode (mB 123) 210 = .ok (.putfield 86, 3) := by decide +kernel
theorem d123_213 : decode (mB 123) 213 = .ok (.aload_n 0, 1) := by decide +kernel
theorem d123_214 : decode (mB 123) 214 = .ok (.bipush 7, 2) := by decide +kernel
theorem d123_216 : decode (mB 123) 216 = .ok (.newarray .int, 2) := by decide +kernel
theorem d123_218 : decode (mB 123) 218 = .ok (.putfield 89, 3) := by decide +kernel
theorem d123_221 : decode (mB 123) 221 = .ok (.aload_n 0, 1) := by decide +kernel
theorem d123_222 : decode (mB 123) 222 = .ok (.bipush 7, 2) := by decide +kernel
theorem d123_224 : decode (mB 123) 224 = .ok (.newarray .int, 2) := by decide +kernel
theorem d123_226 : decode (mB 123) 226 = .ok (.putfield 92, 3) := by decide +kernel
theorem d123_229 : decode (mB 123) 229 = .ok (.aload_n 0, 1) := by decide +kernel
theorem d123_230 : decode (mB 123) 230 = .ok (.bipush 7, 2) := by decide +kernel
theorem d123_232 : decode (mB 123) 232 = .ok (.newarray .int, 2) := by decide +kernel
theorem d123_234 : decode (mB 123) 234 = .ok (.putfield 95, 3) := by decide +kernel
theorem d123_237 : decode (mB 123) 237 = .ok (.aload_n 0, 1) := by decide +kernel
theorem d123_238 : decode (mB 123) 238 = .ok (.bipush 7, 2) := by decide +kernel
theorem d123_240 : decode (mB 123) 240 = .ok (.newarray .int, 2) := by decide +kernel
theorem d123_242 : decode (mB 123) 242 = .ok (.putfield 98, 3) := by decide +kernel
theorem d123_245 : decode (mB 123) 245 = .ok (.aload_n 0, 1) := by decide +kernel
theorem d123_246 : decode (mB 123) 246 = .ok (.bipush 7, 2) := by decide +kernel
theorem d123_248 : decode (mB 123) 248 = .ok (.newarray .long, 2) := by decide +kernel
theorem d123_250 : decode (mB 123) 250 = .ok (.putfield 101, 3) := by decide +kernel
theorem d123_253 : decode (mB 123) 253 = .ok (.aload_n 0, 1) := by decide +kernel
theorem d123_254 : decode (mB 123) 254 = .ok (.bipush 70, 2) := by decide +kernel
theorem d123_256 : decode (mB 123) 256 = .ok (.newarray .long, 2) := by decide +kernel
theorem d123_258 : decode (mB 123) 258 = .ok (.putfield 104, 3) := by decide +kernel
theorem d123_261 : decode (mB 123) 261 = .ok (.aload_n 0, 1) := by decide +kernel
theorem d123_262 : decode (mB 123) 262 = .ok (.bipush 7, 2) := by decide +kernel
theorem d123_264 : decode (mB 123) 264 = .ok (.newarray .int, 2) := by decide +kernel
theorem d123_266 : decode (mB 123) 266 = .ok (.putfield 107, 3) := by decide +kernel
theorem d123_269 : decode (mB 123) 269 = .ok (.aload_n 0, 1) := by decide +kernel
theorem d123_270 : decode (mB 123) 270 = .ok (.bipush 63, 2) := by decide +kernel
theorem d123_272 : decode (mB 123) 272 = .ok (.newarray .int, 2) := by decide +kernel
theorem d123_274 : decode (mB 123) 274 = .ok (.putfield 110, 3) := by decide +kernel
theorem d123_277 : decode (mB 123) 277 = .ok (.aload_n 0, 1) := by decide +kernel
theorem d123_278 : decode (mB 123) 278 = .ok (.bipush 63, 2) := by decide +kernel
theorem d123_280 : decode (mB 123) 280 = .ok (.newarray .int, 2) := by decide +kernel
theorem d123_282 : decode (mB 123) 282 = .ok (.putfield 113, 3) := by decide +kernel
theorem d123_285 : decode (mB 123) 285 = .ok (.aload_n 0, 1) := by decide +kernel
theorem d123_286 : decode (mB 123) 286 = .ok (.bipush 63, 2) := by decide +kernel
theorem d123_288 : decode (mB 123) 288 = .ok (.newarray .int, 2) := by decide +kernel
theorem d123_290 : decode (mB 123) 290 = .ok (.putfield 116, 3) := by decide +kernel
theorem d123_293 : decode (mB 123) 293 = .ok (.aload_n 0, 1) := by decide +kernel
theorem d123_294 : decode (mB 123) 294 = .ok (.bipush 63, 2) := by decide +kernel
theorem d123_296 : decode (mB 123) 296 = .ok (.newarray .long, 2) := by decide +kernel
theorem d123_298 : decode (mB 123) 298 = .ok (.putfield 119, 3) := by decide +kernel
theorem d123_301 : decode (mB 123) 301 = .ok (.aload_n 0, 1) := by decide +kernel
theorem d123_302 : decode (mB 123) 302 = .ok (.bipush 63, 2) := by decide +kernel
theorem d123_304 : decode (mB 123) 304 = .ok (.newarray .boolean, 2) := by decide +kernel
theorem d123_306 : decode (mB 123) 306 = .ok (.putfield 122, 3) := by decide +kernel
theorem d123_309 : decode (mB 123) 309 = .ok (.aload_n 0, 1) := by decide +kernel
theorem d123_310 : decode (mB 123) 310 = .ok (.bipush 63, 2) := by decide +kernel
theorem d123_312 : decode (mB 123) 312 = .ok (.newarray .int, 2) := by decide +kernel
theorem d123_314 : decode (mB 123) 314 = .ok (.putfield 125, 3) := by decide +kernel
theorem d123_317 : decode (mB 123) 317 = .ok (.aload_n 0, 1) := by decide +kernel
theorem d123_318 : decode (mB 123) 318 = .ok (.bipush 63, 2) := by decide +kernel
theorem d123_320 : decode (mB 123) 320 = .ok (.newarray .long, 2) := by decide +kernel
theorem d123_322 : decode (mB 123) 322 = .ok (.putfield 128, 3) := by decide +kernel
theorem d123_325 : decode (mB 123) 325 = .ok (.aload_n 0, 1) := by decide +kernel
theorem d123_326 : decode (mB 123) 326 = .ok (.bipush 63, 2) := by decide +kernel
theorem d123_328 : decode (mB 123) 328 = .ok (.newarray .int, 2) := by decide +kernel
theorem d123_330 : decode (mB 123) 330 = .ok (.putfield 131, 3) := by decide +kernel
theorem d123_333 : decode (mB 123) 333 = .ok (.aload_n 0, 1) := by decide +kernel
theorem d123_334 : decode (mB 123) 334 = .ok (.bipush 7, 2) := by decide +kernel
theorem d123_336 : decode (mB 123) 336 = .ok (.newarray .int, 2) := by decide +kernel
theorem d123_338 : decode (mB 123) 338 = .ok (.putfield 134, 3) := by decide +kernel
theorem d123_341 : decode (mB 123) 341 = .ok (.aload_n 0, 1) := by decide +kernel
theorem d123_342 : decode (mB 123) 342 = .ok (.sipush 224, 3) := by decide +kernel
theorem d123_345 : decode (mB 123) 345 = .ok (.newarray .int, 2) := by decide +kernel
theorem d123_347 : decode (mB 123) 347 = .ok (.putfield 137, 3) := by decide +kernel
theorem d123_350 : decode (mB 123) 350 = .ok (.aload_n 0, 1) := by decide +kernel
theorem d123_351 : decode (mB 123) 351 = .ok (.sipush 224, 3) := by decide +kernel
theorem d123_354 : decode (mB 123) 354 = .ok (.newarray .long, 2) := by decide +kernel
theorem d123_356 : decode (mB 123) 356 = .ok (.putfield 140, 3) := by decide +kernel
theorem d123_359 : decode (mB 123) 359 = .ok (.aload_n 0, 1) := by decide +kernel
theorem d123_360 : decode (mB 123) 360 = .ok (.sipush 224, 3) := by decide +kernel
theorem d123_363 : decode (mB 123) 363 = .ok (.newarray .int, 2) := by decide +kernel
theorem d123_365 : decode (mB 123) 365 = .ok (.putfield 143, 3) := by decide +kernel
theorem d123_368 : decode (mB 123) 368 = .ok (.aload_n 0, 1) := by decide +kernel
theorem d123_369 : decode (mB 123) 369 = .ok (.sipush 224, 3) := by decide +kernel
theorem d123_372 : decode (mB 123) 372 = .ok (.newarray .int, 2) := by decide +kernel
theorem d123_374 : decode (mB 123) 374 = .ok (.putfield 146, 3) := by decide +kernel
theorem d123_377 : decode (mB 123) 377 = .ok (.aload_n 0, 1) := by decide +kernel
theorem d123_378 : decode (mB 123) 378 = .ok (.bipush 7, 2) := by decide +kernel
theorem d123_380 : decode (mB 123) 380 = .ok (.newarray .int, 2) := by decide +kernel
theorem d123_382 : decode (mB 123) 382 = .ok (.putfield 149, 3) := by decide +kernel
theorem d123_385 : decode (mB 123) 385 = .ok (.aload_n 0, 1) := by decide +kernel
theorem d123_386 : decode (mB 123) 386 = .ok (.bipush 7, 2) := by decide +kernel
theorem d123_388 : decode (mB 123) 388 = .ok (.newarray .int, 2) := by decide +kernel
theorem d123_390 : decode (mB 123) 390 = .ok (.putfield 152, 3) := by decide +kernel
theorem d123_393 : decode (mB 123) 393 = .ok (.aload_n 0, 1) := by decide +kernel
theorem d123_394 : decode (mB 123) 394 = .ok (.sipush 400, 3) := by decide +kernel
theorem d123_397 : decode (mB 123) 397 = .ok (.newarray .int, 2) := by decide +kernel
theorem d123_399 : decode (mB 123) 399 = .ok (.putfield 155, 3) := by decide +kernel
theorem d123_402 : decode (mB 123) 402 = .ok (.aload_n 0, 1) := by decide +kernel
theorem d123_403 : decode (mB 123) 403 = .ok (.sipush 400, 3) := by decide +kernel
theorem d123_406 : decode (mB 123) 406 = .ok (.newarray .int, 2) := by decide +kernel
theorem d123_408 : decode (mB 123) 408 = .ok (.putfield 158, 3) := by decide +kernel
theorem d123_411 : decode (mB 123) 411 = .ok (.aload_n 0, 1) := by decide +kernel
theorem d123_412 : decode (mB 123) 412 = .ok (.sipush 400, 3) := by decide +kernel
theorem d123_415 : decode (mB 123) 415 = .ok (.newarray .int, 2) := by decide +kernel
theorem d123_417 : decode (mB 123) 417 = .ok (.putfield 161, 3) := by decide +kernel
theorem d123_420 : decode (mB 123) 420 = .ok (.aload_n 0, 1) := by decide +kernel
theorem d123_421 : decode (mB 123) 421 = .ok (.sipush 400, 3) := by decide +kernel
theorem d123_424 : decode (mB 123) 424 = .ok (.newarray .long, 2) := by decide +kernel
theorem d123_426 : decode (mB 123) 426 = .ok (.putfield 164, 3) := by decide +kernel
theorem d123_429 : decode (mB 123) 429 = .ok (.aload_n 0, 1) := by decide +kernel
theorem d123_430 : decode (mB 123) 430 = .ok (.bipush 64, 2) := by decide +kernel
theorem d123_432 : decode (mB 123) 432 = .ok (.newarray .long, 2) := by decide +kernel
theorem d123_434 : decode (mB 123) 434 = .ok (.putfield 167, 3) := by decide +kernel
theorem d123_437 : decode (mB 123) 437 = .ok (.return_, 1) := by decide +kernel
theorem d129_0 : decode (mB 129) 0 = .ok (.iload_n 1, 1) := by decide +kernel
theorem d129_1 : decode (mB 129) 1 = .ok (.aload_n 0, 1) := by decide +kernel
theorem d129_2 : decode (mB 129) 2 = .ok (.getfield 170, 3) := by decide +kernel
theorem d129_5 : decode (mB 129) 5 = .ok (.if_icmp .ge 16, 3) := by decide +kernel
theorem d129_8 : decode (mB 129) 8 = .ok (.aload_n 0, 1) := by decide +kernel
theorem d129_9 : decode (mB 129) 9 = .ok (.getfield 7, 3) := by decide +kernel
theorem d129_12 : decode (mB 129) 12 = .ok (.iload_n 1, 1) := by decide +kernel
theorem d129_13 : decode (mB 129) 13 = .ok (.baload, 1) := by decide +kernel
theorem d129_14 : decode (mB 129) 14 = .ok (.sipush 255, 3) := by decide +kernel
theorem d129_17 : decode (mB 129) 17 = .ok (.iand, 1) := by decide +kernel
theorem d129_18 : decode (mB 129) 18 = .ok (.goto 4, 3) := by decide +kernel
theorem d129_21 : decode (mB 129) 21 = .ok (.iconst (-1), 1) := by decide +kernel
theorem d129_22 : decode (mB 129) 22 = .ok (.ireturn, 1) := by decide +kernel
theorem d130_0 : decode (mB 130) 0 = .ok (.iload_n 0, 1) := by decide +kernel
theorem d130_1 : decode (mB 130) 1 = .ok (.bipush 97, 2) := by decide +kernel
theorem d130_3 : decode (mB 130) 3 = .ok (.if_icmp .lt 13, 3) := by decide +kernel
theorem d130_6 : decode (mB 130) 6 = .ok (.iload_n 0, 1) := by decide +kernel
theorem d130_7 : decode (mB 130) 7 = .ok (.bipush 122, 2) := by decide +kernel
theorem d130_9 : decode (mB 130) 9 = .ok (.if_icmp .gt 7, 3) := by decide +kernel
theorem d130_12 : decode (mB 130) 12 = .ok (.iconst 1, 1) := by decide +kernel
theorem d130_13 : decode (mB 130) 13 = .ok (.goto 4, 3) := by decide +kernel
theorem d130_16 : decode (mB 130) 16 = .ok (.iconst 0, 1) := by decide +kernel
theorem d130_17 : decode (mB 130) 17 = .ok (.ireturn, 1) := by decide +kernel
theorem d132_0 : decode (mB 132) 0 = .ok (.iload_n 0, 1) := by decide +kernel
theorem d132_1 : decode (mB 132) 1 = .ok (.bipush 48, 2) := by decide +kernel
theorem d132_3 : decode (mB 132) 3 = .ok (.if_icmp .lt 13, 3) := by decide +kernel
theorem d132_6 : decode (mB 132) 6 = .ok (.iload_n 0, 1) := by decide +kernel
theorem d132_7 : decode (mB 132) 7 = .ok (.bipush 57, 2) := by decide +kernel
theorem d132_9 : decode (mB 132) 9 = .ok (.if_icmp .gt 7, 3) := by decide +kernel
theorem d132_12 : decode (mB 132) 12 = .ok (.iconst 1, 1) := by decide +kernel
theorem d132_13 : decode (mB 132) 13 = .ok (.goto 4, 3) := by decide +kernel
theorem d132_16 : decode (mB 132) 16 = .ok (.iconst 0, 1) := by decide +kernel
theorem d132_17 : decode (mB 132) 17 = .ok (.ireturn, 1) := by decide +kernel
theorem d133_0 : decode (mB 133) 0 = .ok (.iload_n 0, 1) := by decide +kernel
theorem d133_1 : decode (mB 133) 1 = .ok (.lookupswitch 101 #[(35, 99), (40, 99), (41, 99), (42, 99), (43, 99), (45, 99), (59, 99), (60, 99), (61, 99), (123, 99), (125, 99)], 99) := by decide +kernel
theorem d133_100 : decode (mB 133) 100 = .ok (.iconst 1, 1) := by decide +kernel
theorem d133_101 : decode (mB 133) 101 = .ok (.ireturn, 1) := by decide +kernel
theorem d133_102 : decode (mB 133) 102 = .ok (.iconst 0, 1) := by decide +kernel
theorem d133_103 : decode (mB 133) 103 = .ok (.ireturn, 1) := by decide +kernel
theorem d131_0 : decode (mB 131) 0 = .ok (.lload_n 0, 1) := by decide +kernel
theorem d131_1 : decode (mB 131) 1 = .ok (.ldc2_w 173, 3) := by decide +kernel
theorem d131_4 : decode (mB 131) 4 = .ok (.lcmp, 1) := by decide +kernel
theorem d131_5 : decode (mB 131) 5 = .ok (.ifCond .ne 5, 3) := by decide +kernel
theorem d131_8 : decode (mB 131) 8 = .ok (.iconst 0, 1) := by decide +kernel
theorem d131_9 : decode (mB 131) 9 = .ok (.ireturn, 1) := by decide +kernel
theorem d131_10 : decode (mB 131) 10 = .ok (.lload_n 0, 1) := by decide +kernel
theorem d131_11 : decode (mB 131) 11 = .ok (.ldc2_w 175, 3) := by decide +kernel
theorem d131_14 : decode (mB 131) 14 = .ok (.lcmp, 1) := by decide +kernel
theorem d131_15 : decode (mB 131) 15 = .ok (.ifCond .ne 5, 3) := by decide +kernel
theorem d131_18 : decode (mB 131) 18 = .ok (.iconst 1, 1) := by decide +kernel
theorem d131_19 : decode (mB 131) 19 = .ok (.ireturn, 1) := by decide +kernel
theorem d131_20 : decode (mB 131) 20 = .ok (.lload_n 0, 1) := by decide +kernel
theorem d131_21 : decode (mB 131) 21 = .ok (.ldc2_w 177, 3) := by decide +kernel
theorem d131_24 : decode (mB 131) 24 = .ok (.lcmp, 1) := by decide +kernel
theorem d131_25 : decode (mB 131) 25 = .ok (.ifCond .ne 5, 3) := by decide +kernel
theorem d131_28 : decode (mB 131) 28 = .ok (.iconst 2, 1) := by decide +kernel
theorem d131_29 : decode (mB 131) 29 = .ok (.ireturn, 1) := by decide +kernel
theorem d131_30 : decode (mB 131) 30 = .ok (.lload_n 0, 1) := by decide +kernel
theorem d131_31 : decode (mB 131) 31 = .ok (.ldc2_w 179, 3) := by decide +kernel
theorem d131_34 : decode (mB 131) 34 = .ok (.lcmp, 1) := by decide +kernel
theorem d131_35 : decode (mB 131) 35 = .ok (.ifCond .ne 5, 3) := by decide +kernel
theorem d131_38 : decode (mB 131) 38 = .ok (.iconst 3, 1) := by decide +kernel
theorem d131_39 : decode (mB 131) 39 = .ok (.ireturn, 1) := by decide +kernel
theorem d131_40 : decode (mB 131) 40 = .ok (.lload_n 0, 1) := by decide +kernel
theorem d131_41 : decode (mB 131) 41 = .ok (.ldc2_w 181, 3) := by decide +kernel
theorem d131_44 : decode (mB 131) 44 = .ok (.lcmp, 1) := by decide +kernel
theorem d131_45 : decode (mB 131) 45 = .ok (.ifCond .ne 5, 3) := by decide +kernel
theorem d131_48 : decode (mB 131) 48 = .ok (.iconst 4, 1) := by decide +kernel
theorem d131_49 : decode (mB 131) 49 = .ok (.ireturn, 1) := by decide +kernel
theorem d131_50 : decode (mB 131) 50 = .ok (.lload_n 0, 1) := by decide +kernel
theorem d131_51 : decode (mB 131) 51 = .ok (.ldc2_w 183, 3) := by decide +kernel
theorem d131_54 : decode (mB 131) 54 = .ok (.lcmp, 1) := by decide +kernel
theorem d131_55 : decode (mB 131) 55 = .ok (.ifCond .ne 5, 3) := by decide +kernel
theorem d131_58 : decode (mB 131) 58 = .ok (.iconst 5, 1) := by decide +kernel
theorem d131_59 : decode (mB 131) 59 = .ok (.ireturn, 1) := by decide +kernel
theorem d131_60 : decode (mB 131) 60 = .ok (.lload_n 0, 1) := by decide +kernel
theorem d131_61 : decode (mB 131) 61 = .ok (.ldc2_w 185, 3) := by decide +kernel
theorem d131_64 : decode (mB 131) 64 = .ok (.lcmp, 1) := by decide +kernel
theorem d131_65 : decode (mB 131) 65 = .ok (.ifCond .ne 6, 3) := by decide +kernel
theorem d131_68 : decode (mB 131) 68 = .ok (.bipush 6, 2) := by decide +kernel
theorem d131_70 : decode (mB 131) 70 = .ok (.ireturn, 1) := by decide +kernel
theorem d131_71 : decode (mB 131) 71 = .ok (.lload_n 0, 1) := by decide +kernel
theorem d131_72 : decode (mB 131) 72 = .ok (.ldc2_w 187, 3) := by decide +kernel
theorem d131_75 : decode (mB 131) 75 = .ok (.lcmp, 1) := by decide +kernel
theorem d131_76 : decode (mB 131) 76 = .ok (.ifCond .ne 6, 3) := by decide +kernel
theorem d131_79 : decode (mB 131) 79 = .ok (.bipush 7, 2) := by decide +kernel
theorem d131_81 : decode (mB 131) 81 = .ok (.ireturn, 1) := by decide +kernel
theorem d131_82 : decode (mB 131) 82 = .ok (.lload_n 0, 1) := by decide +kernel
theorem d131_83 : decode (mB 131) 83 = .ok (.ldc2_w 189, 3) := by decide +kernel
theorem d131_86 : decode (mB 131) 86 = .ok (.lcmp, 1) := by decide +kernel
theorem d131_87 : decode (mB 131) 87 = .ok (.ifCond .ne 6, 3) := by decide +kernel
theorem d131_90 : decode (mB 131) 90 = .ok (.bipush 8, 2) := by decide +kernel
theorem d131_92 : decode (mB 131) 92 = .ok (.ireturn, 1) := by decide +kernel
theorem d131_93 : decode (mB 131) 93 = .ok (.lload_n 0, 1) := by decide +kernel
theorem d131_94 : decode (mB 131) 94 = .ok (.ldc2_w 191, 3) := by decide +kernel
theorem d131_97 : decode (mB 131) 97 = .ok (.lcmp, 1) := by decide +kernel
theorem d131_98 : decode (mB 131) 98 = .ok (.ifCond .ne 6, 3) := by decide +kernel
theorem d131_101 : decode (mB 131) 101 = .ok (.bipush 9, 2) := by decide +kernel
theorem d131_103 : decode (mB 131) 103 = .ok (.ireturn, 1) := by decide +kernel
theorem d131_104 : decode (mB 131) 104 = .ok (.lload_n 0, 1) := by decide +kernel
theorem d131_105 : decode (mB 131) 105 = .ok (.ldc2_w 193, 3) := by decide +kernel
theorem d131_108 : decode (mB 131) 108 = .ok (.lcmp, 1) := by decide +kernel
theorem d131_109 : decode (mB 131) 109 = .ok (.ifCond .ne 6, 3) := by decide +kernel
theorem d131_112 : decode (mB 131) 112 = .ok (.bipush 10, 2) := by decide +kernel
theorem d131_114 : decode (mB 131) 114 = .ok (.ireturn, 1) := by decide +kernel
theorem d131_115 : decode (mB 131) 115 = .ok (.lload_n 0, 1) := by decide +kernel
theorem d131_116 : decode (mB 131) 116 = .ok (.ldc2_w 195, 3) := by decide +kernel
theorem d131_119 : decode (mB 131) 119 = .ok (.lcmp, 1) := by decide +kernel
theorem d131_120 : decode (mB 131) 120 = .ok (.ifCond .ne 6, 3) := by decide +kernel
theorem d131_123 : decode (mB 131) 123 = .ok (.bipush 11, 2) := by decide +kernel
theorem d131_125 : decode (mB 131) 125 = .ok (.ireturn, 1) := by decide +kernel
theorem d131_126 : decode (mB 131) 126 = .ok (.lload_n 0, 1) := by decide +kernel
theorem d131_127 : decode (mB 131) 127 = .ok (.ldc2_w 197, 3) := by decide +kernel
theorem d131_130 : decode (mB 131) 130 = .ok (.lcmp, 1) := by decide +kernel
theorem d131_131 : decode (mB 131) 131 = .ok (.ifCond .ne 6, 3) := by decide +kernel
theorem d131_134 : decode (mB 131) 134 = .ok (.bipush 12, 2) := by decide +kernel
theorem d131_136 : decode (mB 131) 136 = .ok (.ireturn, 1) := by decide +kernel
theorem d131_137 : decode (mB 131) 137 = .ok (.lload_n 0, 1) := by decide +kernel
theorem d131_138 : decode (mB 131) 138 = .ok (.ldc2_w 199, 3) := by decide +kernel
theorem d131_141 : decode (mB 131) 141 = .ok (.lcmp, 1) := by decide +kernel
theorem d131_142 : decode (mB 131) 142 = .ok (.ifCond .ne 6, 3) := by decide +kernel
theorem d131_145 : decode (mB 131) 145 = .ok (.bipush 13, 2) := by decide +kernel
theorem d131_147 : decode (mB 131) 147 = .ok (.ireturn, 1) := by decide +kernel
theorem d131_148 : decode (mB 131) 148 = .ok (.lload_n 0, 1) := by decide +kernel
theorem d131_149 : decode (mB 131) 149 = .ok (.ldc2_w 201, 3) := by decide +kernel
theorem d131_152 : decode (mB 131) 152 = .ok (.lcmp, 1) := by decide +kernel
theorem d131_153 : decode (mB 131) 153 = .ok (.ifCond .ne 6, 3) := by decide +kernel
theorem d131_156 : decode (mB 131) 156 = .ok (.bipush 14, 2) := by decide +kernel
theorem d131_158 : decode (mB 131) 158 = .ok (.ireturn, 1) := by decide +kernel
theorem d131_159 : decode (mB 131) 159 = .ok (.lload_n 0, 1) := by decide +kernel
theorem d131_160 : decode (mB 131) 160 = .ok (.ldc2_w 203, 3) := by decide +kernel
theorem d131_163 : decode (mB 131) 163 = .ok (.lcmp, 1) := by decide +kernel
theorem d131_164 : decode (mB 131) 164 = .ok (.ifCond .ne 6, 3) := by decide +kernel
theorem d131_167 : decode (mB 131) 167 = .ok (.bipush 15, 2) := by decide +kernel
theorem d131_169 : decode (mB 131) 169 = .ok (.ireturn, 1) := by decide +kernel
theorem d131_170 : decode (mB 131) 170 = .ok (.lload_n 0, 1) := by decide +kernel
theorem d131_171 : decode (mB 131) 171 = .ok (.ldc2_w 205, 3) := by decide +kernel
theorem d131_174 : decode (mB 131) 174 = .ok (.lcmp, 1) := by decide +kernel
theorem d131_175 : decode (mB 131) 175 = .ok (.ifCond .ne 6, 3) := by decide +kernel
theorem d131_178 : decode (mB 131) 178 = .ok (.bipush 16, 2) := by decide +kernel
theorem d131_180 : decode (mB 131) 180 = .ok (.ireturn, 1) := by decide +kernel
theorem d131_181 : decode (mB 131) 181 = .ok (.lload_n 0, 1) := by decide +kernel
theorem d131_182 : decode (mB 131) 182 = .ok (.ldc2_w 207, 3) := by decide +kernel
theorem d131_185 : decode (mB 131) 185 = .ok (.lcmp, 1) := by decide +kernel
theorem d131_186 : decode (mB 131) 186 = .ok (.ifCond .ne 6, 3) := by decide +kernel
theorem d131_189 : decode (mB 131) 189 = .ok (.bipush 17, 2) := by decide +kernel
theorem d131_191 : decode (mB 131) 191 = .ok (.ireturn, 1) := by decide +kernel
theorem d131_192 : decode (mB 131) 192 = .ok (.lload_n 0, 1) := by decide +kernel
theorem d131_193 : decode (mB 131) 193 = .ok (.ldc2_w 209, 3) := by decide +kernel
theorem d131_196 : decode (mB 131) 196 = .ok (.lcmp, 1) := by decide +kernel
theorem d131_197 : decode (mB 131) 197 = .ok (.ifCond .ne 6, 3) := by decide +kernel
theorem d131_200 : decode (mB 131) 200 = .ok (.bipush 18, 2) := by decide +kernel
theorem d131_202 : decode (mB 131) 202 = .ok (.ireturn, 1) := by decide +kernel
theorem d131_203 : decode (mB 131) 203 = .ok (.iconst (-1), 1) := by decide +kernel
theorem d131_204 : decode (mB 131) 204 = .ok (.ireturn, 1) := by decide +kernel
theorem d128_0 : decode (mB 128) 0 = .ok (.aload_n 0, 1) := by decide +kernel
theorem d128_1 : decode (mB 128) 1 = .ok (.aload_n 0, 1) := by decide +kernel
theorem d128_2 : decode (mB 128) 2 = .ok (.getfield 211, 3) := by decide +kernel
theorem d128_5 : decode (mB 128) 5 = .ok (.invokevirtual 214, 3) := by decide +kernel
theorem d128_8 : decode (mB 128) 8 = .ok (.bipush 32, 2) := by decide +kernel
theorem d128_10 : decode (mB 128) 10 = .ok (.if_icmp .eq 16, 3) := by decide +kernel
theorem d128_13 : decode (mB 128) 13 = .ok (.aload_n 0, 1) := by decide +kernel
theorem d128_14 : decode (mB 128) 14 = .ok (.aload_n 0, 1) := by decide +kernel
theorem d128_15 : decode (mB 128) 15 = .ok (.getfield 211, 3) := by decide +kernel
theorem d128_18 : decode (mB 128) 18 = .ok (.invokevirtual 214, 3) := by decide +kernel
theorem d128_21 : decode (mB 128) 21 = .ok (.bipush 10, 2) := by decide +kernel
theorem d128_23 : decode (mB 128) 23 = .ok (.if_icmp .ne 16, 3) := by decide +kernel
theorem d128_26 : decode (mB 128) 26 = .ok (.aload_n 0, 1) := by decide +kernel
theorem d128_27 : decode (mB 128) 27 = .ok (.dup, 1) := by decide +kernel
theorem d128_28 : decode (mB 128) 28 = .ok (.getfield 211, 3) := by decide +kernel
theorem d128_31 : decode (mB 128) 31 = .ok (.iconst 1, 1) := by decide +kernel
theorem d128_32 : decode (mB 128) 32 = .ok (.iadd, 1) := by decide +kernel
theorem d128_33 : decode (mB 128) 33 = .ok (.putfield 211, 3) := by decide +kernel
theorem d128_36 : decode (mB 128) 36 = .ok (.goto (-36), 3) := by decide +kernel
theorem d128_39 : decode (mB 128) 39 = .ok (.aload_n 0, 1) := by decide +kernel
theorem d128_40 : decode (mB 128) 40 = .ok (.aload_n 0, 1) := by decide +kernel
theorem d128_41 : decode (mB 128) 41 = .ok (.getfield 211, 3) := by decide +kernel
theorem d128_44 : decode (mB 128) 44 = .ok (.putfield 218, 3) := by decide +kernel
theorem d128_47 : decode (mB 128) 47 = .ok (.aload_n 0, 1) := by decide +kernel
theorem d128_48 : decode (mB 128) 48 = .ok (.aload_n 0, 1) := by decide +kernel
theorem d128_49 : decode (mB 128) 49 = .ok (.getfield 211, 3) := by decide +kernel
theorem d128_52 : decode (mB 128) 52 = .ok (.invokevirtual 214, 3) := by decide +kernel
theorem d128_55 : decode (mB 128) 55 = .ok (.istore_n 1, 1) := by decide +kernel
theorem d128_56 : decode (mB 128) 56 = .ok (.iload_n 1, 1) := by decide +kernel
theorem d128_57 : decode (mB 128) 57 = .ok (.ifCond .ge 11, 3) := by decide +kernel
theorem d128_60 : decode (mB 128) 60 = .ok (.aload_n 0, 1) := by decide +kernel
theorem d128_61 : decode (mB 128) 61 = .ok (.iconst 0, 1) := by decide +kernel
theorem d128_62 : decode (mB 128) 62 = .ok (.putfield 221, 3) := by decide +kernel
theorem d128_65 : decode (mB 128) 65 = .ok (.goto 255, 3) := by decide +kernel
theorem d128_68 : decode (mB 128) 68 = .ok (.iload_n 1, 1) := by decide +kernel
theorem d128_69 : decode (mB 128) 69 = .ok (.invokestatic 224, 3) := by decide +kernel
theorem d128_72 : decode (mB 128) 72 = .ok (.ifCond .eq 116, 3) := by decide +kernel
theorem d128_75 : decode (mB 128) 75 = .ok (.iconst 0, 1) := by decide +kernel
theorem d128_76 : decode (mB 128) 76 = .ok (.istore_n 2, 1) := by decide +kernel
theorem d128_77 : decode (mB 128) 77 = .ok (.lconst 0, 1) := by decide +kernel
theorem d128_78 : decode (mB 128) 78 = .ok (.lstore_n 3, 1) := by decide +kernel
theorem d128_79 : decode (mB 128) 79 = .ok (.aload_n 0, 1) := by decide +kernel
theorem d128_80 : decode (mB 128) 80 = .ok (.aload_n 0, 1) := by decide +kernel
theorem d128_81 : decode (mB 128) 81 = .ok (.getfield 211, 3) := by decide +kernel
theorem d128_84 : decode (mB 128) 84 = .ok (.invokevirtual 214, 3) := by decide +kernel
theorem d128_87 : decode (mB 128) 87 = .ok (.invokestatic 224, 3) := by decide +kernel
theorem d128_90 : decode (mB 128) 90 = .ok (.ifCond .eq 44, 3) := by decide +kernel
theorem d128_93 : decode (mB 128) 93 = .ok (.iload_n 2, 1) := by decide +kernel
theorem d128_94 : decode (mB 128) 94 = .ok (.bipush 7, 2) := by decide +kernel
theorem d128_96 : decode (mB 128) 96 = .ok (.if_icmp .ge 20, 3) := by decide +kernel
theorem d128_99 : decode (mB 128) 99 = .ok (.lload_n 3, 1) := by decide +kernel
theorem d128_100 : decode (mB 128) 100 = .ok (.bipush 8, 2) := by decide +kernel
theorem d128_102 : decode (mB 128) 102 = .ok (.lshl, 1) := by decide +kernel
theorem d128_103 : decode (mB 128) 103 = .ok (.aload_n 0, 1) := by decide +kernel
theorem d128_104 : decode (mB 128) 104 = .ok (.aload_n 0, 1) := by decide +kernel
theorem d128_105 : decode (mB 128) 105 = .ok (.getfield 211, 3) := by decide +kernel
theorem d128_108 : decode (mB 128) 108 = .ok (.invokevirtual 214, 3) := by decide +kernel
theorem d128_111 : decode (mB 128) 111 = .ok (.i2l, 1) := by decide +kernel
theorem d128_112 : decode (mB 128) 112 = .ok (.lor, 1) := by decide +kernel
theorem d128_113 : decode (mB 128) 113 = .ok (.goto 4, 3) := by decide +kernel
theorem d128_116 : decode (mB 128) 116 = .ok (.lload_n 3, 1) := by decide +kernel
theorem d128_117 : decode (mB 128) 117 = .ok (.lstore_n 3, 1) := by decide +kernel
theorem d128_118 : decode (mB 128) 118 = .ok (.iinc 2 1, 3) := by decide +kernel
theorem d128_121 : decode (mB 128) 121 = .ok (.aload_n 0, 1) := by decide +kernel
theorem d128_122 : decode (mB 128) 122 = .ok (.dup, 1) := by decide +kernel
theorem d128_123 : decode (mB 128) 123 = .ok (.getfield 211, 3) := by decide +kernel
theorem d128_126 : decode (mB 128) 126 = .ok (.iconst 1, 1) := by decide +kernel
theorem d128_127 : decode (mB 128) 127 = .ok (.iadd, 1) := by decide +kernel
theorem d128_128 : decode (mB 128) 128 = .ok (.putfield 211, 3) := by decide +kernel
theorem d128_131 : decode (mB 128) 131 = .ok (.goto (-52), 3) := by decide +kernel
theorem d128_134 : decode (mB 128) 134 = .ok (.aload_n 0, 1) := by decide +kernel
theorem d128_135 : decode (mB 128) 135 = .ok (.iload_n 1, 1) := by decide +kernel
theorem d128_136 : decode (mB 128) 136 = .ok (.bipush 97, 2) := by decide +kernel
theorem d128_138 : decode (mB 128) 138 = .ok (.isub, 1) := by decide +kernel
theorem d128_139 : decode (mB 128) 139 = .ok (.putfield 228, 3) := by decide +kernel
theorem d128_142 : decode (mB 128) 142 = .ok (.iload_n 2, 1) := by decide +kernel
theorem d128_143 : decode (mB 128) 143 = .ok (.bipush 7, 2) := by decide +kernel
theorem d128_145 : decode (mB 128) 145 = .ok (.if_icmp .ge 10, 3) := by decide +kernel
theorem d128_148 : decode (mB 128) 148 = .ok (.lload_n 3, 1) := by decide +kernel
theorem d128_149 : decode (mB 128) 149 = .ok (.invokestatic 231, 3) := by decide +kernel
theorem d128_152 : decode (mB 128) 152 = .ok (.goto 4, 3) := by decide +kernel
theorem d128_155 : decode (mB 128) 155 = .ok (.iconst (-1), 1) := by decide +kernel
theorem d128_156 : decode (mB 128) 156 = .ok (.istore 5, 2) := by decide +kernel
theorem d128_158 : decode (mB 128) 158 = .ok (.aload_n 0, 1) := by decide +kernel
theorem d128_159 : decode (mB 128) 159 = .ok (.iload_n 2, 1) := by decide +kernel
theorem d128_160 : decode (mB 128) 160 = .ok (.iconst 1, 1) := by decide +kernel
theorem d128_161 : decode (mB 128) 161 = .ok (.if_icmp .ne 7, 3) := by decide +kernel
theorem d128_164 : decode (mB 128) 164 = .ok (.iconst 2, 1) := by decide +kernel
theorem d128_165 : decode (mB 128) 165 = .ok (.goto 17, 3) := by decide +kernel
theorem d128_168 : decode (mB 128) 168 = .ok (.iload 5, 2) := by decide +kernel
theorem d128_170 : decode (mB 128) 170 = .ok (.ifCond .ge 7, 3) := by decide +kernel
theorem d128_173 : decode (mB 128) 173 = .ok (.iconst 1, 1) := by decide +kernel
theorem d128_174 : decode (mB 128) 174 = .ok (.goto 8, 3) := by decide +kernel
theorem d128_177 : decode (mB 128) 177 = .ok (.bipush 10, 2) := by decide +kernel
theorem d128_179 : decode (mB 128) 179 = .ok (.iload 5, 2) := by decide +kernel
theorem d128_181 : decode (mB 128) 181 = .ok (.iadd, 1) := by decide +kernel
theorem d128_182 : decode (mB 128) 182 = .ok (.putfield 221, 3) := by decide +kernel
theorem d128_185 : decode (mB 128) 185 = .ok (.goto 135, 3) := by decide +kernel
theorem d128_188 : decode (mB 128) 188 = .ok (.iload_n 1, 1) := by decide +kernel
theorem d128_189 : decode (mB 128) 189 = .ok (.invokestatic 235, 3) := by decide +kernel
theorem d128_192 : decode (mB 128) 192 = .ok (.ifCond .eq 97, 3) := by decide +kernel
theorem d128_195 : decode (mB 128) 195 = .ok (.iconst 0, 1) := by decide +kernel
theorem d128_196 : decode (mB 128) 196 = .ok (.istore_n 2, 1) := by decide +kernel
theorem d128_197 : decode (mB 128) 197 = .ok (.aload_n 0, 1) := by decide +kernel
theorem d128_198 : decode (mB 128) 198 = .ok (.lconst 0, 1) := by decide +kernel
theorem d128_199 : decode (mB 128) 199 = .ok (.putfield 238, 3) := by decide +kernel
theorem d128_202 : decode (mB 128) 202 = .ok (.aload_n 0, 1) := by decide +kernel
theorem d128_203 : decode (mB 128) 203 = .ok (.aload_n 0, 1) := by decide +kernel
theorem d128_204 : decode (mB 128) 204 = .ok (.getfield 211, 3) := by decide +kernel
theorem d128_207 : decode (mB 128) 207 = .ok (.invokevirtual 214, 3) := by decide +kernel
theorem d128_210 : decode (mB 128) 210 = .ok (.invokestatic 235, 3) := by decide +kernel
theorem d128_213 : decode (mB 128) 213 = .ok (.ifCond .eq 58, 3) := by decide +kernel
theorem d128_216 : decode (mB 128) 216 = .ok (.aload_n 0, 1) := by decide +kernel
theorem d128_217 : decode (mB 128) 217 = .ok (.iload_n 2, 1) := by decide +kernel
theorem d128_218 : decode (mB 128) 218 = .ok (.bipush 9, 2) := by decide +kernel
theorem d128_220 : decode (mB 128) 220 = .ok (.if_icmp .ge 28, 3) := by decide +kernel
theorem d128_223 : decode (mB 128) 223 = .ok (.ldc2_w 242, 3) := by decide +kernel
theorem d128_226 : decode (mB 128) 226 = .ok (.aload_n 0, 1) := by decide +kernel
theorem d128_227 : decode (mB 128) 227 = .ok (.getfield 238, 3) := by decide +kernel
theorem d128_230 : decode (mB 128) 230 = .ok (.lmul, 1) := by decide +kernel
theorem d128_231 : decode (mB 128) 231 = .ok (.aload_n 0, 1) := by decide +kernel
theorem d128_232 : decode (mB 128) 232 = .ok (.aload_n 0, 1) := by decide +kernel
theorem d128_233 : decode (mB 128) 233 = .ok (.getfield 211, 3) := by decide +kernel
theorem d128_236 : decode (mB 128) 236 = .ok (.invokevirtual 214, 3) := by decide +kernel
theorem d128_239 : decode (mB 128) 239 = .ok (.i2l, 1) := by decide +kernel
theorem d128_240 : decode (mB 128) 240 = .ok (.ladd, 1) := by decide +kernel
theorem d128_241 : decode (mB 128) 241 = .ok (.ldc2_w 244, 3) := by decide +kernel
theorem d128_244 : decode (mB 128) 244 = .ok (.lsub, 1) := by decide +kernel
theorem d128_245 : decode (mB 128) 245 = .ok (.goto 7, 3) := by decide +kernel
theorem d128_248 : decode (mB 128) 248 = .ok (.aload_n 0, 1) := by decide +kernel
theorem d128_249 : decode (mB 128) 249 = .ok (.getfield 238, 3) := by decide +kernel
theorem d128_252 : decode (mB 128) 252 = .ok (.putfield 238, 3) := by decide +kernel
theorem d128_255 : decode (mB 128) 255 = .ok (.iinc 2 1, 3) := by decide +kernel
theorem d128_258 : decode (mB 128) 258 = .ok (.aload_n 0, 1) := by decide +kernel
theorem d128_259 : decode (mB 128) 259 = .ok (.dup, 1) := by decide +kernel
theorem d128_260 : decode (mB 128) 260 = .ok (.getfield 211, 3) := by decide +kernel
theorem d128_263 : decode (mB 128) 263 = .ok (.iconst 1, 1) := by decide +kernel
theorem d128_264 : decode (mB 128) 264 = .ok (.iadd, 1) := by decide +kernel
theorem d128_265 : decode (mB 128) 265 = .ok (.putfield 211, 3) := by decide +kernel
theorem d128_268 : decode (mB 128) 268 = .ok (.goto (-66), 3) := by decide +kernel
theorem d128_271 : decode (mB 128) 271 = .ok (.aload_n 0, 1) := by decide +kernel
theorem d128_272 : decode (mB 128) 272 = .ok (.iload_n 2, 1) := by decide +kernel
theorem d128_273 : decode (mB 128) 273 = .ok (.bipush 9, 2) := by decide +kernel
theorem d128_275 : decode (mB 128) 275 = .ok (.if_icmp .le 7, 3) := by decide +kernel
theorem d128_278 : decode (mB 128) 278 = .ok (.iconst 1, 1) := by decide +kernel
theorem d128_279 : decode (mB 128) 279 = .ok (.goto 4, 3) := by decide +kernel
theorem d128_282 : decode (mB 128) 282 = .ok (.iconst 3, 1) := by decide +kernel
theorem d128_283 : decode (mB 128) 283 = .ok (.putfield 221, 3) := by decide +kernel
theorem d128_286 : decode (mB 128) 286 = .ok (.goto 34, 3) := by decide +kernel
theorem d128_289 : decode (mB 128) 289 = .ok (.aload_n 0, 1) := by decide +kernel
theorem d128_290 : decode (mB 128) 290 = .ok (.iload_n 1, 1) := by decide +kernel
theorem d128_291 : decode (mB 128) 291 = .ok (.putfield 246, 3) := by decide +kernel
theorem d128_294 : decode (mB 128) 294 = .ok (.aload_n 0, 1) := by decide +kernel
theorem d128_295 : decode (mB 128) 295 = .ok (.iload_n 1, 1) := by decide +kernel
theorem d128_296 : decode (mB 128) 296 = .ok (.invokestatic 249, 3) := by decide +kernel
theorem d128_299 : decode (mB 128) 299 = .ok (.ifCond .eq 7, 3) := by decide +kernel
theorem d128_302 : decode (mB 128) 302 = .ok (.iconst 4, 1) := by decide +kernel
theorem d128_303 : decode (mB 128) 303 = .ok (.goto 4, 3) := by decide +kernel
theorem d128_306 : decode (mB 128) 306 = .ok (.iconst 1, 1) := by decide +kernel
theorem d128_307 : decode (mB 128) 307 = .ok (.putfield 221, 3) := by decide +kernel
theorem d128_310 : decode (mB 128) 310 = .ok (.aload_n 0, 1) := by decide +kernel
theorem d128_311 : decode (mB 128) 311 = .ok (.dup, 1) := by decide +kernel
theorem d128_312 : decode (mB 128) 312 = .ok (.getfield 211, 3) := by decide +kernel
theorem d128_315 : decode (mB 128) 315 = .ok (.iconst 1, 1) := by decide +kernel
theorem d128_316 : decode (mB 128) 316 = .ok (.iadd, 1) := by decide +kernel
theorem d128_317 : decode (mB 128) 317 = .ok (.putfield 211, 3) := by decide +kernel
theorem d128_320 : decode (mB 128) 320 = .ok (.return_, 1) := by decide +kernel
theorem d135_0 : decode (mB 135) 0 = .ok (.aload_n 0, 1) := by decide +kernel
theorem d135_1 : decode (mB 135) 1 = .ok (.getfield 252, 3) := by decide +kernel
theorem d135_4 : decode (mB 135) 4 = .ok (.ifCond .ne 16, 3) := by decide +kernel
theorem d135_7 : decode (mB 135) 7 = .ok (.aload_n 0, 1) := by decide +kernel
theorem d135_8 : decode (mB 135) 8 = .ok (.iconst 1, 1) := by decide +kernel
theorem d135_9 : decode (mB 135) 9 = .ok (.putfield 252, 3) := by decide +kernel
theorem d135_12 : decode (mB 135) 12 = .ok (.aload_n 0, 1) := by decide +kernel
theorem d135_13 : decode (mB 135) 13 = .ok (.aload_n 0, 1) := by decide +kernel
theorem d135_14 : decode (mB 135) 14 = .ok (.getfield 218, 3) := by decide +kernel
theorem d135_17 : decode (mB 135) 17 = .ok (.putfield 13, 3) := by decide +kernel
theorem d135_20 : decode (mB 135) 20 = .ok (.return_, 1) := by decide +kernel
theorem d134_0 : decode (mB 134) 0 = .ok (.aload_n 0, 1) := by decide +kernel
theorem d134_1 : decode (mB 134) 1 = .ok (.getfield 221, 3) := by decide +kernel
theorem d134_4 : decode (mB 134) 4 = .ok (.iconst 4, 1) := by decide +kernel
theorem d134_5 : decode (mB 134) 5 = .ok (.if_icmp .ne 15, 3) := by decide +kernel
theorem d134_8 : decode (mB 134) 8 = .ok (.aload_n 0, 1) := by decide +kernel
theorem d134_9 : decode (mB 134) 9 = .ok (.getfield 246, 3) := by decide +kernel
theorem d134_12 : decode (mB 134) 12 = .ok (.iload_n 1, 1) := by decide +kernel
theorem d134_13 : decode (mB 134) 13 = .ok (.if_icmp .ne 7, 3) := by decide +kernel
theorem d134_16 : decode (mB 134) 16 = .ok (.iconst 1, 1) := by decide +kernel
theorem d134_17 : decode (mB 134) 17 = .ok (.goto 4, 3) := by decide +kernel
theorem d134_20 : decode (mB 134) 20 = .ok (.iconst 0, 1) := by decide +kernel
theorem d134_21 : decode (mB 134) 21 = .ok (.ireturn, 1) := by decide +kernel
theorem d144_0 : decode (mB 144) 0 = .ok (.aload_n 0, 1) := by decide +kernel
theorem d144_1 : decode (mB 144) 1 = .ok (.iload_n 1, 1) := by decide +kernel
theorem d144_2 : decode (mB 144) 2 = .ok (.invokevirtual 256, 3) := by decide +kernel
theorem d144_5 : decode (mB 144) 5 = .ok (.ifCond .ne 7, 3) := by decide +kernel
theorem d144_8 : decode (mB 144) 8 = .ok (.aload_n 0, 1) := by decide +kernel
theorem d144_9 : decode (mB 144) 9 = .ok (.invokevirtual 259, 3) := by decide +kernel
theorem d144_12 : decode (mB 144) 12 = .ok (.aload_n 0, 1) := by decide +kernel
theorem d144_13 : decode (mB 144) 13 = .ok (.getfield 252, 3) := by decide +kernel
theorem d144_16 : decode (mB 144) 16 = .ok (.ifCond .ne 7, 3) := by decide +kernel
theorem d144_19 : decode (mB 144) 19 = .ok (.aload_n 0, 1) := by decide +kernel
theorem d144_20 : decode (mB 144) 20 = .ok (.invokevirtual 262, 3) := by decide +kernel
theorem d144_23 : decode (mB 144) 23 = .ok (.return_, 1) := by decide +kernel
theorem d137_0 : decode (mB 137) 0 = .ok (.aload_n 0, 1) := by decide +kernel
theorem d137_1 : decode (mB 137) 1 = .ok (.getfield 221, 3) := by decide +kernel
theorem d137_4 : decode (mB 137) 4 = .ok (.bipush 10, 2) := by decide +kernel
theorem d137_6 : decode (mB 137) 6 = .ok (.iload_n 1, 1) := by decide +kernel
theorem d137_7 : decode (mB 137) 7 = .ok (.iadd, 1) := by decide +kernel
theorem d137_8 : decode (mB 137) 8 = .ok (.if_icmp .eq 7, 3) := by decide +kernel
theorem d137_11 : decode (mB 137) 11 = .ok (.aload_n 0, 1) := by decide +kernel
theorem d137_12 : decode (mB 137) 12 = .ok (.invokevirtual 259, 3) := by decide +kernel
theorem d137_15 : decode (mB 137) 15 = .ok (.aload_n 0, 1) := by decide +kernel
theorem d137_16 : decode (mB 137) 16 = .ok (.getfield 252, 3) := by decide +kernel
theorem d137_19 : decode (mB 137) 19 = .ok (.ifCond .ne 7, 3) := by decide +kernel
theorem d137_22 : decode (mB 137) 22 = .ok (.aload_n 0, 1) := by decide +kernel
theorem d137_23 : decode (mB 137) 23 = .ok (.invokevirtual 262, 3) := by decide +kernel
theorem d137_26 : decode (mB 137) 26 = .ok (.return_, 1) := by decide +kernel
theorem d140_0 : decode (mB 140) 0 = .ok (.aload_n 0, 1) := by decide +kernel
theorem d140_1 : decode (mB 140) 1 = .ok (.getfield 221, 3) := by decide +kernel
theorem d140_4 : decode (mB 140) 4 = .ok (.iconst 2, 1) := by decide +kernel
theorem d140_5 : decode (mB 140) 5 = .ok (.if_icmp .ne 16, 3) := by decide +kernel
theorem d140_8 : decode (mB 140) 8 = .ok (.aload_n 0, 1) := by decide +kernel
theorem d140_9 : decode (mB 140) 9 = .ok (.getfield 228, 3) := by decide +kernel
theorem d140_12 : decode (mB 140) 12 = .ok (.bipush 16, 2) := by decide +kernel
theorem d140_14 : decode (mB 140) 14 = .ok (.if_icmp .lt 7, 3) := by decide +kernel
theorem d140_17 : decode (mB 140) 17 = .ok (.iconst 1, 1) := by decide +kernel
theorem d140_18 : decode (mB 140) 18 = .ok (.goto 4, 3) := by decide +kernel
theorem d140_21 : decode (mB 140) 21 = .ok (.iconst 0, 1) := by decide +kernel
theorem d140_22 : decode (mB 140) 22 = .ok (.ireturn, 1) := by decide +kernel
theorem d148_0 : decode (mB 148) 0 = .ok (.sipush 200, 3) := by decide +kernel
theorem d148_3 : decode (mB 148) 3 = .ok (.aload_n 0, 1) := by decide +kernel
theorem d148_4 : decode (mB 148) 4 = .ok (.getfield 265, 3) := by decide +kernel
theorem d148_7 : decode (mB 148) 7 = .ok (.imul, 1) := by decide +kernel
theorem d148_8 : decode (mB 148) 8 = .ok (.aload_n 0, 1) := by decide +kernel
theorem d148_9 : decode (mB 148) 9 = .ok (.getfield 30, 3) := by decide +kernel
theorem d148_12 : decode (mB 148) 12 = .ok (.aload_n 0, 1) := by decide +kernel
theorem d148_13 : decode (mB 148) 13 = .ok (.getfield 265, 3) := by decide +kernel
theorem d148_16 : decode (mB 148) 16 = .ok (.iaload, 1) := by decide +kernel
theorem d148_17 : decode (mB 148) 17 = .ok (.iadd, 1) := by decide +kernel
theorem d148_18 : decode (mB 148) 18 = .ok (.istore 5, 2) := by decide +kernel
theorem d148_20 : decode (mB 148) 20 = .ok (.aload_n 0, 1) := by decide +kernel
theorem d148_21 : decode (mB 148) 21 = .ok (.getfield 30, 3) := by decide +kernel
theorem d148_24 : decode (mB 148) 24 = .ok (.aload_n 0, 1) := by decide +kernel
theorem d148_25 : decode (mB 148) 25 = .ok (.getfield 265, 3) := by decide +kernel
theorem d148_28 : decode (mB 148) 28 = .ok (.dup2, 1) := by decide +kernel
theorem d148_29 : decode (mB 148) 29 = .ok (.iaload, 1) := by decide +kernel
theorem d148_30 : decode (mB 148) 30 = .ok (.iconst 1, 1) := by decide +kernel
theorem d148_31 : decode (mB 148) 31 = .ok (.iadd, 1) := by decide +kernel
theorem d148_32 : decode (mB 148) 32 = .ok (.iastore, 1) := by decide +kernel
theorem d148_33 : decode (mB 148) 33 = .ok (.aload_n 0, 1) := by decide +kernel
theorem d148_34 : decode (mB 148) 34 = .ok (.getfield 58, 3) := by decide +kernel
theorem d148_37 : decode (mB 148) 37 = .ok (.iload 5, 2) := by decide +kernel
theorem d148_39 : decode (mB 148) 39 = .ok (.iload_n 1, 1) := by decide +kernel
theorem d148_40 : decode (mB 148) 40 = .ok (.iastore, 1) := by decide +kernel
theorem d148_41 : decode (mB 148) 41 = .ok (.aload_n 0, 1) := by decide +kernel
theorem d148_42 : decode (mB 148) 42 = .ok (.getfield 61, 3) := by decide +kernel
theorem d148_45 : decode (mB 148) 45 = .ok (.iload 5, 2) := by decide +kernel
theorem d148_47 : decode (mB 148) 47 = .ok (.iload_n 2, 1) := by decide +kernel
theorem d148_48 : decode (mB 148) 48 = .ok (.iastore, 1) := by decide +kernel
theorem d148_49 : decode (mB 148) 49 = .ok (.aload_n 0, 1) := by decide +kernel
theorem d148_50 : decode (mB 148) 50 = .ok (.getfield 64, 3) := by decide +kernel
theorem d148_53 : decode (mB 148) 53 = .ok (.iload 5, 2) := by decide +kernel
theorem d148_55 : decode (mB 148) 55 = .ok (.lload_n 3, 1) := by decide +kernel
theorem d148_56 : decode (mB 148) 56 = .ok (.lastore, 1) := by decide +kernel
theorem d148_57 : decode (mB 148) 57 = .ok (.return_, 1) := by decide +kernel
theorem d151_0 : decode (mB 151) 0 = .ok (.iload_n 0, 1) := by decide +kernel
theorem d151_1 : decode (mB 151) 1 = .ok (.bipush 42, 2) := by decide +kernel
theorem d151_3 : decode (mB 151) 3 = .ok (.if_icmp .ne 7, 3) := by decide +kernel
theorem d151_6 : decode (mB 151) 6 = .ok (.iconst 3, 1) := by decide +kernel
theorem d151_7 : decode (mB 151) 7 = .ok (.goto 42, 3) := by decide +kernel
theorem d151_10 : decode (mB 151) 10 = .ok (.iload_n 0, 1) := by decide +kernel
theorem d151_11 : decode (mB 151) 11 = .ok (.bipush 43, 2) := by decide +kernel
theorem d151_13 : decode (mB 151) 13 = .ok (.if_icmp .eq 9, 3) := by decide +kernel
theorem d151_16 : decode (mB 151) 16 = .ok (.iload_n 0, 1) := by decide +kernel
theorem d151_17 : decode (mB 151) 17 = .ok (.bipush 45, 2) := by decide +kernel
theorem d151_19 : decode (mB 151) 19 = .ok (.if_icmp .ne 7, 3) := by decide +kernel
theorem d151_22 : decode (mB 151) 22 = .ok (.iconst 2, 1) := by decide +kernel
theorem d151_23 : decode (mB 151) 23 = .ok (.goto 26, 3) := by decide +kernel
theorem d151_26 : decode (mB 151) 26 = .ok (.iload_n 0, 1) := by decide +kernel
theorem d151_27 : decode (mB 151) 27 = .ok (.bipush 60, 2) := by decide +kernel
theorem d151_29 : decode (mB 151) 29 = .ok (.if_icmp .eq 15, 3) := by decide +kernel
theorem d151_32 : decode (mB 151) 32 = .ok (.iload_n 0, 1) := by decide +kernel
theorem d151_33 : decode (mB 151) 33 = .ok (.bipush 61, 2) := by decide +kernel
theorem d151_35 : decode (mB 151) 35 = .ok (.if_icmp .eq 9, 3) := by decide +kernel
theorem d151_38 : decode (mB 151) 38 = .ok (.iload_n 0, 1) := by decide +kernel
theorem d151_39 : decode (mB 151) 39 = .ok (.bipush 35, 2) := by decide +kernel
theorem d151_41 : decode (mB 151) 41 = .ok (.if_icmp .ne 7, 3) := by decide +kernel
theorem d151_44 : decode (mB 151) 44 = .ok (.iconst 1, 1) := by decide +kernel
theorem d151_45 : decode (mB 151) 45 = .ok (.goto 4, 3) := by decide +kernel
theorem d151_48 : decode (mB 151) 48 = .ok (.iconst 0, 1) := by decide +kernel
theorem d151_49 : decode (mB 151) 49 = .ok (.ireturn, 1) := by decide +kernel
theorem d150_0 : decode (mB 150) 0 = .ok (.aload_n 0, 1) := by decide +kernel
theorem d150_1 : decode (mB 150) 1 = .ok (.getfield 268, 3) := by decide +kernel
theorem d150_4 : decode (mB 150) 4 = .ok (.ifCond .le 82, 3) := by decide +kernel
theorem d150_7 : decode (mB 150) 7 = .ok (.aload_n 0, 1) := by decide +kernel
theorem d150_8 : decode (mB 150) 8 = .ok (.getfield 68, 3) := by decide +kernel
theorem d150_11 : decode (mB 150) 11 = .ok (.aload_n 0, 1) := by decide +kernel
theorem d150_12 : decode (mB 150) 12 = .ok (.getfield 268, 3) := by decide +kernel
theorem d150_15 : decode (mB 150) 15 = .ok (.iconst 1, 1) := by decide +kernel
theorem d150_16 : decode (mB 150) 16 = .ok (.isub, 1) := by decide +kernel
theorem d150_17 : decode (mB 150) 17 = .ok (.iaload, 1) := by decide +kernel
theorem d150_18 : decode (mB 150) 18 = .ok (.bipush 40, 2) := by decide +kernel
theorem d150_20 : decode (mB 150) 20 = .ok (.if_icmp .eq 66, 3) := by decide +kernel
theorem d150_23 : decode (mB 150) 23 = .ok (.aload_n 0, 1) := by decide +kernel
theorem d150_24 : decode (mB 150) 24 = .ok (.getfield 68, 3) := by decide +kernel
theorem d150_27 : decode (mB 150) 27 = .ok (.aload_n 0, 1) := by decide +kernel
theorem d150_28 : decode (mB 150) 28 = .ok (.getfield 268, 3) := by decide +kernel
theorem d150_31 : decode (mB 150) 31 = .ok (.iconst 1, 1) := by decide +kernel
theorem d150_32 : decode (mB 150) 32 = .ok (.isub, 1) := by decide +kernel
theorem d150_33 : decode (mB 150) 33 = .ok (.iaload, 1) := by decide +kernel
theorem d150_34 : decode (mB 150) 34 = .ok (.sipush 1000, 3) := by decide +kernel
theorem d150_37 : decode (mB 150) 37 = .ok (.if_icmp .eq 49, 3) := by decide +kernel
theorem d150_40 : decode (mB 150) 40 = .ok (.aload_n 0, 1) := by decide +kernel
theorem d150_41 : decode (mB 150) 41 = .ok (.getfield 68, 3) := by decide +kernel
theorem d150_44 : decode (mB 150) 44 = .ok (.aload_n 0, 1) := by decide +kernel
theorem d150_45 : decode (mB 150) 45 = .ok (.getfield 268, 3) := by decide +kernel
theorem d150_48 : decode (mB 150) 48 = .ok (.iconst 1, 1) := by decide +kernel
theorem d150_49 : decode (mB 150) 49 = .ok (.isub, 1) := by decide +kernel
theorem d150_50 : decode (mB 150) 50 = .ok (.iaload, 1) := by decide +kernel
theorem d150_51 : decode (mB 150) 51 = .ok (.invokestatic 271, 3) := by decide +kernel
theorem d150_54 : decode (mB 150) 54 = .ok (.iload_n 1, 1) := by decide +kernel
theorem d150_55 : decode (mB 150) 55 = .ok (.if_icmp .lt 31, 3) := by decide +kernel
theorem d150_58 : decode (mB 150) 58 = .ok (.aload_n 0, 1) := by decide +kernel
theorem d150_59 : decode (mB 150) 59 = .ok (.dup, 1) := by decide +kernel
theorem d150_60 : decode (mB 150) 60 = .ok (.getfield 268, 3) := by decide +kernel
theorem d150_63 : decode (mB 150) 63 = .ok (.iconst 1, 1) := by decide +kernel
theorem d150_64 : decode (mB 150) 64 = .ok (.isub, 1) := by decide +kernel
theorem d150_65 : decode (mB 150) 65 = .ok (.putfield 268, 3) := by decide +kernel
theorem d150_68 : decode (mB 150) 68 = .ok (.aload_n 0, 1) := by decide +kernel
theorem d150_69 : decode (mB 150) 69 = .ok (.aload_n 0, 1) := by decide +kernel
theorem d150_70 : decode (mB 150) 70 = .ok (.getfield 68, 3) := by decide +kernel
theorem d150_73 : decode (mB 150) 73 = .ok (.aload_n 0, 1) := by decide +kernel
theorem d150_74 : decode (mB 150) 74 = .ok (.getfield 268, 3) := by decide +kernel
theorem d150_77 : decode (mB 150) 77 = .ok (.iaload, 1) := by decide +kernel
theorem d150_78 : decode (mB 150) 78 = .ok (.iconst (-1), 1) := by decide +kernel
theorem d150_79 : decode (mB 150) 79 = .ok (.lconst 0, 1) := by decide +kernel
theorem d150_80 : decode (mB 150) 80 = .ok (.invokevirtual 274, 3) := by decide +kernel
theorem d150_83 : decode (mB 150) 83 = .ok (.goto (-83), 3) := by decide +kernel
theorem d150_86 : decode (mB 150) 86 = .ok (.return_, 1) := by decide +kernel
theorem d149_0 : decode (mB 149) 0 = .ok (.aload_n 0, 1) := by decide +kernel
theorem d149_1 : decode (mB 149) 1 = .ok (.getfield 268, 3) := by decide +kernel
theorem d149_4 : decode (mB 149) 4 = .ok (.ifCond .le 50, 3) := by decide +kernel
theorem d149_7 : decode (mB 149) 7 = .ok (.aload_n 0, 1) := by decide +kernel
theorem d149_8 : decode (mB 149) 8 = .ok (.getfield 68, 3) := by decide +kernel
theorem d149_11 : decode (mB 149) 11 = .ok (.aload_n 0, 1) := by decide +kernel
theorem d149_12 : decode (mB 149) 12 = .ok (.getfield 268, 3) := by decide +kernel
theorem d149_15 : decode (mB 149) 15 = .ok (.iconst 1, 1) := by decide +kernel
theorem d149_16 : decode (mB 149) 16 = .ok (.isub, 1) := by decide +kernel
theorem d149_17 : decode (mB 149) 17 = .ok (.iaload, 1) := by decide +kernel
theorem d149_18 : decode (mB 149) 18 = .ok (.sipush 1000, 3) := by decide +kernel
theorem d149_21 : decode (mB 149) 21 = .ok (.if_icmp .ne 33, 3) := by decide +kernel
theorem d149_24 : decode (mB 149) 24 = .ok (.aload_n 0, 1) := by decide +kernel
theorem d149_25 : decode (mB 149) 25 = .ok (.dup, 1) := by decide +kernel
theorem d149_26 : decode (mB 149) 26 = .ok (.getfield 268, 3) := by decide +kernel
theorem d149_29 : decode (mB 149) 29 = .ok (.iconst 1, 1) := by decide +kernel
theorem d149_30 : decode (mB 149) 30 = .ok (.isub, 1) := by decide +kernel
theorem d149_31 : decode (mB 149) 31 = .ok (.putfield 268, 3) := by decide +kernel
theorem d149_34 : decode (mB 149) 34 = .ok (.aload_n 0, 1) := by decide +kernel
theorem d149_35 : decode (mB 149) 35 = .ok (.dup, 1) := by decide +kernel
theorem d149_36 : decode (mB 149) 36 = .ok (.getfield 278, 3) := by decide +kernel
theorem d149_39 : decode (mB 149) 39 = .ok (.iconst 1, 1) := by decide +kernel
theorem d149_40 : decode (mB 149) 40 = .ok (.isub, 1) := by decide +kernel
theorem d149_41 : decode (mB 149) 41 = .ok (.putfield 278, 3) := by decide +kernel
theorem d149_44 : decode (mB 149) 44 = .ok (.aload_n 0, 1) := by decide +kernel
theorem d149_45 : decode (mB 149) 45 = .ok (.iconst 3, 1) := by decide +kernel
theorem d149_46 : decode (mB 149) 46 = .ok (.iconst (-1), 1) := by decide +kernel
theorem d149_47 : decode (mB 149) 47 = .ok (.lconst 0, 1) := by decide +kernel
theorem d149_48 : decode (mB 149) 48 = .ok (.invokevirtual 274, 3) := by decide +kernel
theorem d149_51 : decode (mB 149) 51 = .ok (.goto (-51), 3) := by decide +kernel
theorem d149_54 : decode (mB 149) 54 = .ok (.return_, 1) := by decide +kernel
theorem d146_0 : decode (mB 146) 0 = .ok (.sipush 200, 3) := by decide +kernel
theorem d146_3 : decode (mB 146) 3 = .ok (.aload_n 0, 1) := by decide +kernel
theorem d146_4 : decode (mB 146) 4 = .ok (.getfield 265, 3) := by decide +kernel
theorem d146_7 : decode (mB 146) 7 = .ok (.imul, 1) := by decide +kernel
theorem d146_8 : decode (mB 146) 8 = .ok (.aload_n 0, 1) := by decide +kernel
theorem d146_9 : decode (mB 146) 9 = .ok (.getfield 30, 3) := by decide +kernel
theorem d146_12 : decode (mB 146) 12 = .ok (.aload_n 0, 1) := by decide +kernel
theorem d146_13 : decode (mB 146) 13 = .ok (.getfield 265, 3) := by decide +kernel
theorem d146_16 : decode (mB 146) 16 = .ok (.iaload, 1) := by decide +kernel
theorem d146_17 : decode (mB 146) 17 = .ok (.iadd, 1) := by decide +kernel
theorem d146_18 : decode (mB 146) 18 = .ok (.istore_n 1, 1) := by decide +kernel
theorem d146_19 : decode (mB 146) 19 = .ok (.aload_n 0, 1) := by decide +kernel
theorem d146_20 : decode (mB 146) 20 = .ok (.iconst 0, 1) := by decide +kernel
theorem d146_21 : decode (mB 146) 21 = .ok (.putfield 268, 3) := by decide +kernel
theorem d146_24 : decode (mB 146) 24 = .ok (.aload_n 0, 1) := by decide +kernel
theorem d146_25 : decode (mB 146) 25 = .ok (.iconst 0, 1) := by decide +kernel
theorem d146_26 : decode (mB 146) 26 = .ok (.putfield 278, 3) := by decide +kernel
theorem d146_29 : decode (mB 146) 29 = .ok (.aload_n 0, 1) := by decide +kernel
theorem d146_30 : decode (mB 146) 30 = .ok (.iconst 0, 1) := by decide +kernel
theorem d146_31 : decode (mB 146) 31 = .ok (.putfield 281, 3) := by decide +kernel
theorem d146_34 : decode (mB 146) 34 = .ok (.aload_n 0, 1) := by decide +kernel
theorem d146_35 : decode (mB 146) 35 = .ok (.getfield 71, 3) := by decide +kernel
theorem d146_38 : decode (mB 146) 38 = .ok (.iconst 0, 1) := by decide +kernel
theorem d146_39 : decode (mB 146) 39 = .ok (.iconst 0, 1) := by decide +kernel
theorem d146_40 : decode (mB 146) 40 = .ok (.bastore, 1) := by decide +kernel
theorem d146_41 : decode (mB 146) 41 = .ok (.iconst 1, 1) := by decide +kernel
theorem d146_42 : decode (mB 146) 42 = .ok (.istore_n 2, 1) := by decide +kernel
theorem d146_43 : decode (mB 146) 43 = .ok (.iconst 1, 1) := by decide +kernel
theorem d146_44 : decode (mB 146) 44 = .ok (.istore_n 3, 1) := by decide +kernel
theorem d146_45 : decode (mB 146) 45 = .ok (.iload_n 3, 1) := by decide +kernel
theorem d146_46 : decode (mB 146) 46 = .ok (.ifCond .eq 228, 3) := by decide +kernel
theorem d146_49 : decode (mB 146) 49 = .ok (.aload_n 0, 1) := by decide +kernel
theorem d146_50 : decode (mB 146) 50 = .ok (.getfield 252, 3) := by decide +kernel
theorem d146_53 : decode (mB 146) 53 = .ok (.ifCond .ne 221, 3) := by decide +kernel
theorem d146_56 : decode (mB 146) 56 = .ok (.iload_n 2, 1) := by decide +kernel
theorem d146_57 : decode (mB 146) 57 = .ok (.ifCond .eq 11, 3) := by decide +kernel
theorem d146_60 : decode (mB 146) 60 = .ok (.aload_n 0, 1) := by decide +kernel
theorem d146_61 : decode (mB 146) 61 = .ok (.invokevirtual 284, 3) := by decide +kernel
theorem d146_64 : decode (mB 146) 64 = .ok (.istore_n 2, 1) := by decide +kernel
theorem d146_65 : decode (mB 146) 65 = .ok (.goto (-20), 3) := by decide +kernel
theorem d146_68 : decode (mB 146) 68 = .ok (.aload_n 0, 1) := by decide +kernel
theorem d146_69 : decode (mB 146) 69 = .ok (.bipush 41, 2) := by decide +kernel
theorem d146_71 : decode (mB 146) 71 = .ok (.invokevirtual 256, 3) := by decide +kernel
theorem d146_74 : decode (mB 146) 74 = .ok (.ifCond .eq 56, 3) := by decide +kernel
theorem d146_77 : decode (mB 146) 77 = .ok (.aload_n 0, 1) := by decide +kernel
theorem d146_78 : decode (mB 146) 78 = .ok (.getfield 281, 3) := by decide +kernel
theorem d146_81 : decode (mB 146) 81 = .ok (.ifCond .le 49, 3) := by decide +kernel
theorem d146_84 : decode (mB 146) 84 = .ok (.aload_n 0, 1) := by decide +kernel
theorem d146_85 : decode (mB 146) 85 = .ok (.iconst 1, 1) := by decide +kernel
theorem d146_86 : decode (mB 146) 86 = .ok (.invokevirtual 288, 3) := by decide +kernel
theorem d146_89 : decode (mB 146) 89 = .ok (.aload_n 0, 1) := by decide +kernel
theorem d146_90 : decode (mB 146) 90 = .ok (.dup, 1) := by decide +kernel
theorem d146_91 : decode (mB 146) 91 = .ok (.getfield 268, 3) := by decide +kernel
theorem d146_94 : decode (mB 146) 94 = .ok (.iconst 1, 1) := by decide +kernel
theorem d146_95 : decode (mB 146) 95 = .ok (.isub, 1) := by decide +kernel
theorem d146_96 : decode (mB 146) 96 = .ok (.putfield 268, 3) := by decide +kernel
theorem d146_99 : decode (mB 146) 99 = .ok (.aload_n 0, 1) := by decide +kernel
theorem d146_100 : decode (mB 146) 100 = .ok (.dup, 1) := by decide +kernel
theorem d146_101 : decode (mB 146) 101 = .ok (.getfield 281, 3) := by decide +kernel
theorem d146_104 : decode (mB 146) 104 = .ok (.iconst 1, 1) := by decide +kernel
theorem d146_105 : decode (mB 146) 105 = .ok (.isub, 1) := by decide +kernel
theorem d146_106 : decode (mB 146) 106 = .ok (.putfield 281, 3) := by decide +kernel
theorem d146_109 : decode (mB 146) 109 = .ok (.aload_n 0, 1) := by decide +kernel
theorem d146_110 : decode (mB 146) 110 = .ok (.dup, 1) := by decide +kernel
theorem d146_111 : decode (mB 146) 111 = .ok (.getfield 278, 3) := by decide +kernel
theorem d146_114 : decode (mB 146) 114 = .ok (.iconst 1, 1) := by decide +kernel
theorem d146_115 : decode (mB 146) 115 = .ok (.isub, 1) := by decide +kernel
theorem d146_116 : decode (mB 146) 116 = .ok (.putfield 278, 3) := by decide +kernel
theorem d146_119 : decode (mB 146) 119 = .ok (.aload_n 0, 1) := by decide +kernel
theorem d146_120 : decode (mB 146) 120 = .ok (.invokevirtual 262, 3) := by decide +kernel
theorem d146_123 : decode (mB 146) 123 = .ok (.aload_n 0, 1) := by decide +kernel
theorem d146_124 : decode (mB 146) 124 = .ok (.invokevirtual 292, 3) := by decide +kernel
theorem d146_127 : decode (mB 146) 127 = .ok (.goto (-82), 3) := by decide +kernel
theorem d146_130 : decode (mB 146) 130 = .ok (.aload_n 0, 1) := by decide +kernel
theorem d146_131 : decode (mB 146) 131 = .ok (.getfield 221, 3) := by decide +kernel
theorem d146_134 : decode (mB 146) 134 = .ok (.iconst 4, 1) := by decide +kernel
theorem d146_135 : decode (mB 146) 135 = .ok (.if_icmp .ne 14, 3) := by decide +kernel
theorem d146_138 : decode (mB 146) 138 = .ok (.aload_n 0, 1) := by decide +kernel
theorem d146_139 : decode (mB 146) 139 = .ok (.getfield 246, 3) := by decide +kernel
theorem d146_142 : decode (mB 146) 142 = .ok (.invokestatic 271, 3) := by decide +kernel
theorem d146_145 : decode (mB 146) 145 = .ok (.iconst 1, 1) := by decide +kernel
theorem d146_146 : decode (mB 146) 146 = .ok (.if_icmp .gt 34, 3) := by decide +kernel
theorem d146_149 : decode (mB 146) 149 = .ok (.aload_n 0, 1) := by decide +kernel
theorem d146_150 : decode (mB 146) 150 = .ok (.getfield 221, 3) := by decide +kernel
theorem d146_153 : decode (mB 146) 153 = .ok (.iconst 4, 1) := by decide +kernel
theorem d146_154 : decode (mB 146) 154 = .ok (.if_icmp .ne 115, 3) := by decide +kernel
theorem d146_157 : decode (mB 146) 157 = .ok (.aload_n 0, 1) := by decide +kernel
theorem d146_158 : decode (mB 146) 158 = .ok (.getfield 246, 3) := by decide +kernel
theorem d146_161 : decode (mB 146) 161 = .ok (.invokestatic 271, 3) := by decide +kernel
theorem d146_164 : decode (mB 146) 164 = .ok (.iconst 1, 1) := by decide +kernel
theorem d146_165 : decode (mB 146) 165 = .ok (.if_icmp .ne 104, 3) := by decide +kernel
theorem d146_168 : decode (mB 146) 168 = .ok (.aload_n 0, 1) := by decide +kernel
theorem d146_169 : decode (mB 146) 169 = .ok (.getfield 71, 3) := by decide +kernel
theorem d146_172 : decode (mB 146) 172 = .ok (.aload_n 0, 1) := by decide +kernel
theorem d146_173 : decode (mB 146) 173 = .ok (.getfield 281, 3) := by decide +kernel
theorem d146_176 : decode (mB 146) 176 = .ok (.baload, 1) := by decide +kernel
theorem d146_177 : decode (mB 146) 177 = .ok (.ifCond .ne 92, 3) := by decide +kernel
theorem d146_180 : decode (mB 146) 180 = .ok (.aload_n 0, 1) := by decide +kernel
theorem d146_181 : decode (mB 146) 181 = .ok (.getfield 246, 3) := by decide +kernel
theorem d146_184 : decode (mB 146) 184 = .ok (.invokestatic 271, 3) := by decide +kernel
theorem d146_187 : decode (mB 146) 187 = .ok (.istore 4, 2) := by decide +kernel
theorem d146_189 : decode (mB 146) 189 = .ok (.aload_n 0, 1) := by decide +kernel
theorem d146_190 : decode (mB 146) 190 = .ok (.getfield 71, 3) := by decide +kernel
theorem d146_193 : decode (mB 146) 193 = .ok (.aload_n 0, 1) := by decide +kernel
theorem d146_194 : decode (mB 146) 194 = .ok (.getfield 281, 3) := by decide +kernel
theorem d146_197 : decode (mB 146) 197 = .ok (.aload_n 0, 1) := by decide +kernel
theorem d146_198 : decode (mB 146) 198 = .ok (.getfield 71, 3) := by decide +kernel
theorem d146_201 : decode (mB 146) 201 = .ok (.aload_n 0, 1) := by decide +kernel
theorem d146_202 : decode (mB 146) 202 = .ok (.getfield 281, 3) := by decide +kernel
theorem d146_205 : decode (mB 146) 205 = .ok (.baload, 1) := by decide +kernel
theorem d146_206 : decode (mB 146) 206 = .ok (.ifCond .ne 9, 3) := by decide +kernel
theorem d146_209 : decode (mB 146) 209 = .ok (.iload 4, 2) := by decide +kernel
theorem d146_211 : decode (mB 146) 211 = .ok (.iconst 1, 1) := by decide +kernel
theorem d146_212 : decode (mB 146) 212 = .ok (.if_icmp .ne 7, 3) := by decide +kernel
theorem d146_215 : decode (mB 146) 215 = .ok (.iconst 1, 1) := by decide +kernel
theorem d146_216 : decode (mB 146) 216 = .ok (.goto 4, 3) := by decide +kernel
theorem d146_219 : decode (mB 146) 219 = .ok (.iconst 0, 1) := by decide +kernel
theorem d146_220 : decode (mB 146) 220 = .ok (.bastore, 1) := by decide +kernel
theorem d146_221 : decode (mB 146) 221 = .ok (.aload_n 0, 1) := by decide +kernel
theorem d146_222 : decode (mB 146) 222 = .ok (.iload 4, 2) := by decide +kernel
theorem d146_224 : decode (mB 146) 224 = .ok (.iconst 1, 1) := by decide +kernel
theorem d146_225 : decode (mB 146) 225 = .ok (.if_icmp .ne 7, 3) := by decide +kernel
theorem d146_228 : decode (mB 146) 228 = .ok (.iconst 2, 1) := by decide +kernel
theorem d146_229 : decode (mB 146) 229 = .ok (.goto 5, 3) := by decide +kernel
theorem d146_232 : decode (mB 146) 232 = .ok (.iload 4, 2) := by decide +kernel
theorem d146_234 : decode (mB 146) 234 = .ok (.invokevirtual 288, 3) := by decide +kernel
theorem d146_237 : decode (mB 146) 237 = .ok (.aload_n 0, 1) := by decide +kernel
theorem d146_238 : decode (mB 146) 238 = .ok (.getfield 68, 3) := by decide +kernel
theorem d146_241 : decode (mB 146) 241 = .ok (.aload_n 0, 1) := by decide +kernel
theorem d146_242 : decode (mB 146) 242 = .ok (.getfield 268, 3) := by decide +kernel
theorem d146_245 : decode (mB 146) 245 = .ok (.aload_n 0, 1) := by decide +kernel
theorem d146_246 : decode (mB 146) 246 = .ok (.getfield 246, 3) := by decide +kernel
theorem d146_249 : decode (mB 146) 249 = .ok (.iastore, 1) := by decide +kernel
theorem d146_250 : decode (mB 146) 250 = .ok (.aload_n 0, 1) := by decide +kernel
theorem d146_251 : decode (mB 146) 251 = .ok (.dup, 1) := by decide +kernel
theorem d146_252 : decode (mB 146) 252 = .ok (.getfield 268, 3) := by decide +kernel
theorem d146_255 : decode (mB 146) 255 = .ok (.iconst 1, 1) := by decide +kernel
theorem d146_256 : decode (mB 146) 256 = .ok (.iadd, 1) := by decide +kernel
theorem d146_257 : decode (mB 146) 257 = .ok (.putfield 268, 3) := by decide +kernel
theorem d146_260 : decode (mB 146) 260 = .ok (.aload_n 0, 1) := by decide +kernel
theorem d146_261 : decode (mB 146) 261 = .ok (.invokevirtual 262, 3) := by decide +kernel
theorem d146_264 : decode (mB 146) 264 = .ok (.iconst 1, 1) := by decide +kernel
theorem d146_265 : decode (mB 146) 265 = .ok (.istore_n 2, 1) := by decide +kernel
theorem d146_266 : decode (mB 146) 266 = .ok (.goto (-221), 3) := by decide +kernel
theorem d146_269 : decode (mB 146) 269 = .ok (.iconst 0, 1) := by decide +kernel
theorem d146_270 : decode (mB 146) 270 = .ok (.istore_n 3, 1) := by decide +kernel
theorem d146_271 : decode (mB 146) 271 = .ok (.goto (-226), 3) := by decide +kernel
theorem d146_274 : decode (mB 146) 274 = .ok (.aload_n 0, 1) := by decide +kernel
theorem d146_275 : decode (mB 146) 275 = .ok (.getfield 281, 3) := by decide +kernel
theorem d146_278 : decode (mB 146) 278 = .ok (.ifCond .le 7, 3) := by decide +kernel
theorem d146_281 : decode (mB 146) 281 = .ok (.aload_n 0, 1) := by decide +kernel
theorem d146_282 : decode (mB 146) 282 = .ok (.invokevirtual 259, 3) := by decide +kernel
theorem d146_285 : decode (mB 146) 285 = .ok (.aload_n 0, 1) := by decide +kernel
theorem d146_286 : decode (mB 146) 286 = .ok (.iconst 1, 1) := by decide +kernel
theorem d146_287 : decode (mB 146) 287 = .ok (.invokevirtual 288, 3) := by decide +kernel
theorem d146_290 : decode (mB 146) 290 = .ok (.aload_n 0, 1) := by decide +kernel
theorem d146_291 : decode (mB 146) 291 = .ok (.iconst 4, 1) := by decide +kernel
theorem d146_292 : decode (mB 146) 292 = .ok (.iconst (-1), 1) := by decide +kernel
theorem d146_293 : decode (mB 146) 293 = .ok (.lconst 0, 1) := by decide +kernel
theorem d146_294 : decode (mB 146) 294 = .ok (.invokevirtual 274, 3) := by decide +kernel
theorem d146_297 : decode (mB 146) 297 = .ok (.iload_n 1, 1) := by decide +kernel
theorem d146_298 : decode (mB 146) 298 = .ok (.ireturn, 1) := by decide +kernel
theorem d147_0 : decode (mB 147) 0 = .ok (.aload_n 0, 1) := by decide +kernel
theorem d147_1 : decode (mB 147) 1 = .ok (.bipush 45, 2) := by decide +kernel
theorem d147_3 : decode (mB 147) 3 = .ok (.invokevirtual 256, 3) := by decide +kernel
theorem d147_6 : decode (mB 147) 6 = .ok (.ifCond .ne 12, 3) := by decide +kernel
theorem d147_9 : decode (mB 147) 9 = .ok (.aload_n 0, 1) := by decide +kernel
theorem d147_10 : decode (mB 147) 10 = .ok (.bipush 40, 2) := by decide +kernel
theorem d147_12 : decode (mB 147) 12 = .ok (.invokevirtual 256, 3) := by decide +kernel
theorem d147_15 : decode (mB 147) 15 = .ok (.ifCond .eq 7, 3) := by decide +kernel
theorem d147_18 : decode (mB 147) 18 = .ok (.iconst 1, 1) := by decide +kernel
theorem d147_19 : decode (mB 147) 19 = .ok (.goto 4, 3) := by decide +kernel
theorem d147_22 : decode (mB 147) 22 = .ok (.iconst 0, 1) := by decide +kernel
theorem d147_23 : decode (mB 147) 23 = .ok (.istore_n 1, 1) := by decide +kernel
theorem d147_24 : decode (mB 147) 24 = .ok (.iload_n 1, 1) := by decide +kernel
theorem d147_25 : decode (mB 147) 25 = .ok (.ifCond .ne 18, 3) := by decide +kernel
theorem d147_28 : decode (mB 147) 28 = .ok (.aload_n 0, 1) := by decide +kernel
theorem d147_29 : decode (mB 147) 29 = .ok (.getfield 221, 3) := by decide +kernel
theorem d147_32 : decode (mB 147) 32 = .ok (.iconst 3, 1) := by decide +kernel
theorem d147_33 : decode (mB 147) 33 = .ok (.if_icmp .eq 10, 3) := by decide +kernel
theorem d147_36 : decode (mB 147) 36 = .ok (.aload_n 0, 1) := by decide +kernel
theorem d147_37 : decode (mB 147) 37 = .ok (.invokevirtual 295, 3) := by decide +kernel
theorem d147_40 : decode (mB 147) 40 = .ok (.ifCond .eq 7, 3) := by decide +kernel
theorem d147_43 : decode (mB 147) 43 = .ok (.iconst 1, 1) := by decide +kernel
theorem d147_44 : decode (mB 147) 44 = .ok (.goto 4, 3) := by decide +kernel
theorem d147_47 : decode (mB 147) 47 = .ok (.iconst 0, 1) := by decide +kernel
theorem d147_48 : decode (mB 147) 48 = .ok (.istore_n 2, 1) := by decide +kernel
theorem d147_49 : decode (mB 147) 49 = .ok (.iload_n 2, 1) := by decide +kernel
theorem d147_50 : decode (mB 147) 50 = .ok (.ifCond .eq 30, 3) := by decide +kernel
theorem d147_53 : decode (mB 147) 53 = .ok (.aload_n 0, 1) := by decide +kernel
theorem d147_54 : decode (mB 147) 54 = .ok (.getfield 21, 3) := by decide +kernel
theorem d147_57 : decode (mB 147) 57 = .ok (.aload_n 0, 1) := by decide +kernel
theorem d147_58 : decode (mB 147) 58 = .ok (.getfield 265, 3) := by decide +kernel
theorem d147_61 : decode (mB 147) 61 = .ok (.iaload, 1) := by decide +kernel
theorem d147_62 : decode (mB 147) 62 = .ok (.bipush 60, 2) := by decide +kernel
theorem d147_64 : decode (mB 147) 64 = .ok (.if_icmp .eq 16, 3) := by decide +kernel
theorem d147_67 : decode (mB 147) 67 = .ok (.iload_n 1, 1) := by decide +kernel
theorem d147_68 : decode (mB 147) 68 = .ok (.ifCond .eq 18, 3) := by decide +kernel
theorem d147_71 : decode (mB 147) 71 = .ok (.aload_n 0, 1) := by decide +kernel
theorem d147_72 : decode (mB 147) 72 = .ok (.getfield 278, 3) := by decide +kernel
theorem d147_75 : decode (mB 147) 75 = .ok (.bipush 8, 2) := by decide +kernel
theorem d147_77 : decode (mB 147) 77 = .ok (.if_icmp .ne 9, 3) := by decide +kernel
theorem d147_80 : decode (mB 147) 80 = .ok (.aload_n 0, 1) := by decide +kernel
theorem d147_81 : decode (mB 147) 81 = .ok (.invokevirtual 259, 3) := by decide +kernel
theorem d147_84 : decode (mB 147) 84 = .ok (.iconst 0, 1) := by decide +kernel
theorem d147_85 : decode (mB 147) 85 = .ok (.ireturn, 1) := by decide +kernel
theorem d147_86 : decode (mB 147) 86 = .ok (.aload_n 0, 1) := by decide +kernel
theorem d147_87 : decode (mB 147) 87 = .ok (.getfield 21, 3) := by decide +kernel
theorem d147_90 : decode (mB 147) 90 = .ok (.aload_n 0, 1) := by decide +kernel
theorem d147_91 : decode (mB 147) 91 = .ok (.getfield 265, 3) := by decide +kernel
theorem d147_94 : decode (mB 147) 94 = .ok (.dup2, 1) := by decide +kernel
theorem d147_95 : decode (mB 147) 95 = .ok (.iaload, 1) := by decide +kernel
theorem d147_96 : decode (mB 147) 96 = .ok (.iconst 1, 1) := by decide +kernel
theorem d147_97 : decode (mB 147) 97 = .ok (.iadd, 1) := by decide +kernel
theorem d147_98 : decode (mB 147) 98 = .ok (.iastore, 1) := by decide +kernel
theorem d147_99 : decode (mB 147) 99 = .ok (.iload_n 1, 1) := by decide +kernel
theorem d147_100 : decode (mB 147) 100 = .ok (.ifCond .eq 84, 3) := by decide +kernel
theorem d147_103 : decode (mB 147) 103 = .ok (.aload_n 0, 1) := by decide +kernel
theorem d147_104 : decode (mB 147) 104 = .ok (.dup, 1) := by decide +kernel
theorem d147_105 : decode (mB 147) 105 = .ok (.getfield 278, 3) := by decide +kernel
theorem d147_108 : decode (mB 147) 108 = .ok (.iconst 1, 1) := by decide +kernel
theorem d147_109 : decode (mB 147) 109 = .ok (.iadd, 1) := by decide +kernel
theorem d147_110 : decode (mB 147) 110 = .ok (.putfield 278, 3) := by decide +kernel
theorem d147_113 : decode (mB 147) 113 = .ok (.aload_n 0, 1) := by decide +kernel
theorem d147_114 : decode (mB 147) 114 = .ok (.getfield 68, 3) := by decide +kernel
theorem d147_117 : decode (mB 147) 117 = .ok (.aload_n 0, 1) := by decide +kernel
theorem d147_118 : decode (mB 147) 118 = .ok (.getfield 268, 3) := by decide +kernel
theorem d147_121 : decode (mB 147) 121 = .ok (.aload_n 0, 1) := by decide +kernel
theorem d147_122 : decode (mB 147) 122 = .ok (.bipush 40, 2) := by decide +kernel
theorem d147_124 : decode (mB 147) 124 = .ok (.invokevirtual 256, 3) := by decide +kernel
theorem d147_127 : decode (mB 147) 127 = .ok (.ifCond .eq 8, 3) := by decide +kernel
theorem d147_130 : decode (mB 147) 130 = .ok (.bipush 40, 2) := by decide +kernel
theorem d147_132 : decode (mB 147) 132 = .ok (.goto 6, 3) := by decide +kernel
theorem d147_135 : decode (mB 147) 135 = .ok (.sipush 1000, 3) := by decide +kernel
theorem d147_138 : decode (mB 147) 138 = .ok (.iastore, 1) := by decide +kernel
theorem d147_139 : decode (mB 147) 139 = .ok (.aload_n 0, 1) := by decide +kernel
theorem d147_140 : decode (mB 147) 140 = .ok (.dup, 1) := by decide +kernel
theorem d147_141 : decode (mB 147) 141 = .ok (.getfield 268, 3) := by decide +kernel
theorem d147_144 : decode (mB 147) 144 = .ok (.iconst 1, 1) := by decide +kernel
theorem d147_145 : decode (mB 147) 145 = .ok (.iadd, 1) := by decide +kernel
theorem d147_146 : decode (mB 147) 146 = .ok (.putfield 268, 3) := by decide +kernel
theorem d147_149 : decode (mB 147) 149 = .ok (.aload_n 0, 1) := by decide +kernel
theorem d147_150 : decode (mB 147) 150 = .ok (.bipush 40, 2) := by decide +kernel
theorem d147_152 : decode (mB 147) 152 = .ok (.invokevirtual 256, 3) := by decide +kernel
theorem d147_155 : decode (mB 147) 155 = .ok (.ifCond .eq 23, 3) := by decide +kernel
theorem d147_158 : decode (mB 147) 158 = .ok (.aload_n 0, 1) := by decide +kernel
theorem d147_159 : decode (mB 147) 159 = .ok (.dup, 1) := by decide +kernel
theorem d147_160 : decode (mB 147) 160 = .ok (.getfield 281, 3) := by decide +kernel
theorem d147_163 : decode (mB 147) 163 = .ok (.iconst 1, 1) := by decide +kernel
theorem d147_164 : decode (mB 147) 164 = .ok (.iadd, 1) := by decide +kernel
theorem d147_165 : decode (mB 147) 165 = .ok (.putfield 281, 3) := by decide +kernel
theorem d147_168 : decode (mB 147) 168 = .ok (.aload_n 0, 1) := by decide +kernel
theorem d147_169 : decode (mB 147) 169 = .ok (.getfield 71, 3) := by decide +kernel
theorem d147_172 : decode (mB 147) 172 = .ok (.aload_n 0, 1) := by decide +kernel
theorem d147_173 : decode (mB 147) 173 = .ok (.getfield 281, 3) := by decide +kernel
theorem d147_176 : decode (mB 147) 176 = .ok (.iconst 0, 1) := by decide +kernel
theorem d147_177 : decode (mB 147) 177 = .ok (.bastore, 1) := by decide +kernel
theorem d147_178 : decode (mB 147) 178 = .ok (.aload_n 0, 1) := by decide +kernel
theorem d147_179 : decode (mB 147) 179 = .ok (.invokevirtual 262, 3) := by decide +kernel
theorem d147_182 : decode (mB 147) 182 = .ok (.iconst 1, 1) := by decide +kernel
theorem d147_183 : decode (mB 147) 183 = .ok (.ireturn, 1) := by decide +kernel
theorem d147_184 : decode (mB 147) 184 = .ok (.aload_n 0, 1) := by decide +kernel
theorem d147_185 : decode (mB 147) 185 = .ok (.aload_n 0, 1) := by decide +kernel
theorem d147_186 : decode (mB 147) 186 = .ok (.getfield 221, 3) := by decide +kernel
theorem d147_189 : decode (mB 147) 189 = .ok (.iconst 3, 1) := by decide +kernel
theorem d147_190 : decode (mB 147) 190 = .ok (.if_icmp .ne 7, 3) := by decide +kernel
theorem d147_193 : decode (mB 147) 193 = .ok (.iconst 1, 1) := by decide +kernel
theorem d147_194 : decode (mB 147) 194 = .ok (.goto 4, 3) := by decide +kernel
theorem d147_197 : decode (mB 147) 197 = .ok (.iconst 2, 1) := by decide +kernel
theorem d147_198 : decode (mB 147) 198 = .ok (.aload_n 0, 1) := by decide +kernel
theorem d147_199 : decode (mB 147) 199 = .ok (.getfield 221, 3) := by decide +kernel
theorem d147_202 : decode (mB 147) 202 = .ok (.iconst 2, 1) := by decide +kernel
theorem d147_203 : decode (mB 147) 203 = .ok (.if_icmp .ne 10, 3) := by decide +kernel
theorem d147_206 : decode (mB 147) 206 = .ok (.aload_n 0, 1) := by decide +kernel
theorem d147_207 : decode (mB 147) 207 = .ok (.getfield 228, 3) := by decide +kernel
theorem d147_210 : decode (mB 147) 210 = .ok (.goto 4, 3) := by decide +kernel
theorem d147_213 : decode (mB 147) 213 = .ok (.iconst (-1), 1) := by decide +kernel
theorem d147_214 : decode (mB 147) 214 = .ok (.aload_n 0, 1) := by decide +kernel
theorem d147_215 : decode (mB 147) 215 = .ok (.getfield 221, 3) := by decide +kernel
theorem d147_218 : decode (mB 147) 218 = .ok (.iconst 3, 1) := by decide +kernel
theorem d147_219 : decode (mB 147) 219 = .ok (.if_icmp .ne 10, 3) := by decide +kernel
theorem d147_222 : decode (mB 147) 222 = .ok (.aload_n 0, 1) := by decide +kernel
theorem d147_223 : decode (mB 147) 223 = .ok (.getfield 238, 3) := by decide +kernel
theorem d147_226 : decode (mB 147) 226 = .ok (.goto 4, 3) := by decide +kernel
theorem d147_229 : decode (mB 147) 229 = .ok (.lconst 0, 1) := by decide +kernel
theorem d147_230 : decode (mB 147) 230 = .ok (.invokevirtual 274, 3) := by decide +kernel
theorem d147_233 : decode (mB 147) 233 = .ok (.aload_n 0, 1) := by decide +kernel
theorem d147_234 : decode (mB 147) 234 = .ok (.invokevirtual 262, 3) := by decide +kernel
theorem d147_237 : decode (mB 147) 237 = .ok (.aload_n 0, 1) := by decide +kernel
theorem d147_238 : decode (mB 147) 238 = .ok (.invokevirtual 292, 3) := by decide +kernel
theorem d147_241 : decode (mB 147) 241 = .ok (.iconst 0, 1) := by decide +kernel
theorem d147_242 : decode (mB 147) 242 = .ok (.ireturn, 1) := by decide +kernel
theorem d138_0 : decode (mB 138) 0 = .ok (.aload_n 0, 1) := by decide +kernel
theorem d138_1 : decode (mB 138) 1 = .ok (.getfield 252, 3) := by decide +kernel
theorem d138_4 : decode (mB 138) 4 = .ok (.ifCond .ne 21, 3) := by decide +kernel
theorem d138_7 : decode (mB 138) 7 = .ok (.aload_n 0, 1) := by decide +kernel
theorem d138_8 : decode (mB 138) 8 = .ok (.bipush 123, 2) := by decide +kernel
theorem d138_10 : decode (mB 138) 10 = .ok (.invokevirtual 256, 3) := by decide +kernel
theorem d138_13 : decode (mB 138) 13 = .ok (.ifCond .eq 12, 3) := by decide +kernel
theorem d138_16 : decode (mB 138) 16 = .ok (.aload_n 0, 1) := by decide +kernel
theorem d138_17 : decode (mB 138) 17 = .ok (.getfield 298, 3) := by decide +kernel
theorem d138_20 : decode (mB 138) 20 = .ok (.bipush 8, 2) := by decide +kernel
theorem d138_22 : decode (mB 138) 22 = .ok (.if_icmp .ne 8, 3) := by decide +kernel
theorem d138_25 : decode (mB 138) 25 = .ok (.aload_n 0, 1) := by decide +kernel
theorem d138_26 : decode (mB 138) 26 = .ok (.invokevirtual 259, 3) := by decide +kernel
theorem d138_29 : decode (mB 138) 29 = .ok (.return_, 1) := by decide +kernel
theorem d138_30 : decode (mB 138) 30 = .ok (.aload_n 0, 1) := by decide +kernel
theorem d138_31 : decode (mB 138) 31 = .ok (.dup, 1) := by decide +kernel
theorem d138_32 : decode (mB 138) 32 = .ok (.getfield 298, 3) := by decide +kernel
theorem d138_35 : decode (mB 138) 35 = .ok (.iconst 1, 1) := by decide +kernel
theorem d138_36 : decode (mB 138) 36 = .ok (.iadd, 1) := by decide +kernel
theorem d138_37 : decode (mB 138) 37 = .ok (.putfield 298, 3) := by decide +kernel
theorem d138_40 : decode (mB 138) 40 = .ok (.aload_n 0, 1) := by decide +kernel
theorem d138_41 : decode (mB 138) 41 = .ok (.getfield 24, 3) := by decide +kernel
theorem d138_44 : decode (mB 138) 44 = .ok (.aload_n 0, 1) := by decide +kernel
theorem d138_45 : decode (mB 138) 45 = .ok (.getfield 265, 3) := by decide +kernel
theorem d138_48 : decode (mB 138) 48 = .ok (.aload_n 0, 1) := by decide +kernel
theorem d138_49 : decode (mB 138) 49 = .ok (.getfield 298, 3) := by decide +kernel
theorem d138_52 : decode (mB 138) 52 = .ok (.aload_n 0, 1) := by decide +kernel
theorem d138_53 : decode (mB 138) 53 = .ok (.getfield 24, 3) := by decide +kernel
theorem d138_56 : decode (mB 138) 56 = .ok (.aload_n 0, 1) := by decide +kernel
theorem d138_57 : decode (mB 138) 57 = .ok (.getfield 265, 3) := by decide +kernel
theorem d138_60 : decode (mB 138) 60 = .ok (.iaload, 1) := by decide +kernel
theorem d138_61 : decode (mB 138) 61 = .ok (.if_icmp .le 10, 3) := by decide +kernel
theorem d138_64 : decode (mB 138) 64 = .ok (.aload_n 0, 1) := by decide +kernel
theorem d138_65 : decode (mB 138) 65 = .ok (.getfield 298, 3) := by decide +kernel
theorem d138_68 : decode (mB 138) 68 = .ok (.goto 12, 3) := by decide +kernel
theorem d138_71 : decode (mB 138) 71 = .ok (.aload_n 0, 1) := by decide +kernel
theorem d138_72 : decode (mB 138) 72 = .ok (.getfield 24, 3) := by decide +kernel
theorem d138_75 : decode (mB 138) 75 = .ok (.aload_n 0, 1) := by decide +kernel
theorem d138_76 : decode (mB 138) 76 = .ok (.getfield 265, 3) := by decide +kernel
theorem d138_79 : decode (mB 138) 79 = .ok (.iaload, 1) := by decide +kernel
theorem d138_80 : decode (mB 138) 80 = .ok (.iastore, 1) := by decide +kernel
theorem d138_81 : decode (mB 138) 81 = .ok (.aload_n 0, 1) := by decide +kernel
theorem d138_82 : decode (mB 138) 82 = .ok (.getfield 74, 3) := by decide +kernel
theorem d138_85 : decode (mB 138) 85 = .ok (.aload_n 0, 1) := by decide +kernel
theorem d138_86 : decode (mB 138) 86 = .ok (.getfield 298, 3) := by decide +kernel
theorem d138_89 : decode (mB 138) 89 = .ok (.iload_n 1, 1) := by decide +kernel
theorem d138_90 : decode (mB 138) 90 = .ok (.iastore, 1) := by decide +kernel
theorem d138_91 : decode (mB 138) 91 = .ok (.aload_n 0, 1) := by decide +kernel
theorem d138_92 : decode (mB 138) 92 = .ok (.getfield 77, 3) := by decide +kernel
theorem d138_95 : decode (mB 138) 95 = .ok (.aload_n 0, 1) := by decide +kernel
theorem d138_96 : decode (mB 138) 96 = .ok (.getfield 298, 3) := by decide +kernel
theorem d138_99 : decode (mB 138) 99 = .ok (.iload_n 2, 1) := by decide +kernel
theorem d138_100 : decode (mB 138) 100 = .ok (.iastore, 1) := by decide +kernel
theorem d138_101 : decode (mB 138) 101 = .ok (.aload_n 0, 1) := by decide +kernel
theorem d138_102 : decode (mB 138) 102 = .ok (.getfield 80, 3) := by decide +kernel
theorem d138_105 : decode (mB 138) 105 = .ok (.aload_n 0, 1) := by decide +kernel
theorem d138_106 : decode (mB 138) 106 = .ok (.getfield 298, 3) := by decide +kernel
theorem d138_109 : decode (mB 138) 109 = .ok (.iconst (-1), 1) := by decide +kernel
theorem d138_110 : decode (mB 138) 110 = .ok (.iastore, 1) := by decide +kernel
theorem d138_111 : decode (mB 138) 111 = .ok (.aload_n 0, 1) := by decide +kernel
theorem d138_112 : decode (mB 138) 112 = .ok (.getfield 45, 3) := by decide +kernel
theorem d138_115 : decode (mB 138) 115 = .ok (.iconst 3, 1) := by decide +kernel
theorem d138_116 : decode (mB 138) 116 = .ok (.iload_n 1, 1) := by decide +kernel
theorem d138_117 : decode (mB 138) 117 = .ok (.imul, 1) := by decide +kernel
theorem d138_118 : decode (mB 138) 118 = .ok (.iload_n 2, 1) := by decide +kernel
theorem d138_119 : decode (mB 138) 119 = .ok (.iadd, 1) := by decide +kernel
theorem d138_120 : decode (mB 138) 120 = .ok (.iconst 1, 1) := by decide +kernel
theorem d138_121 : decode (mB 138) 121 = .ok (.bastore, 1) := by decide +kernel
theorem d138_122 : decode (mB 138) 122 = .ok (.aload_n 0, 1) := by decide +kernel
theorem d138_123 : decode (mB 138) 123 = .ok (.invokevirtual 262, 3) := by decide +kernel
theorem d138_126 : decode (mB 138) 126 = .ok (.return_, 1) := by decide +kernel
theorem d127_0 : decode (mB 127) 0 = .ok (.aload_n 0, 1) := by decide +kernel
theorem d127_1 : decode (mB 127) 1 = .ok (.iconst 0, 1) := by decide +kernel
theorem d127_2 : decode (mB 127) 2 = .ok (.putfield 298, 3) := by decide +kernel
theorem d127_5 : decode (mB 127) 5 = .ok (.aload_n 0, 1) := by decide +kernel
theorem d127_6 : decode (mB 127) 6 = .ok (.getfield 74, 3) := by decide +kernel
theorem d127_9 : decode (mB 127) 9 = .ok (.iconst 0, 1) := by decide +kernel
theorem d127_10 : decode (mB 127) 10 = .ok (.iconst (-1), 1) := by decide +kernel
theorem d127_11 : decode (mB 127) 11 = .ok (.iastore, 1) := by decide +kernel
theorem d127_12 : decode (mB 127) 12 = .ok (.aload_n 0, 1) := by decide +kernel
theorem d127_13 : decode (mB 127) 13 = .ok (.getfield 77, 3) := by decide +kernel
theorem d127_16 : decode (mB 127) 16 = .ok (.iconst 0, 1) := by decide +kernel
theorem d127_17 : decode (mB 127) 17 = .ok (.iconst 0, 1) := by decide +kernel
theorem d127_18 : decode (mB 127) 18 = .ok (.iastore, 1) := by decide +kernel
theorem d127_19 : decode (mB 127) 19 = .ok (.aload_n 0, 1) := by decide +kernel
theorem d127_20 : decode (mB 127) 20 = .ok (.getfield 80, 3) := by decide +kernel
theorem d127_23 : decode (mB 127) 23 = .ok (.iconst 0, 1) := by decide +kernel
theorem d127_24 : decode (mB 127) 24 = .ok (.iconst (-1), 1) := by decide +kernel
theorem d127_25 : decode (mB 127) 25 = .ok (.iastore, 1) := by decide +kernel
theorem d127_26 : decode (mB 127) 26 = .ok (.aload_n 0, 1) := by decide +kernel
theorem d127_27 : decode (mB 127) 27 = .ok (.getfield 27, 3) := by decide +kernel
theorem d127_30 : decode (mB 127) 30 = .ok (.aload_n 0, 1) := by decide +kernel
theorem d127_31 : decode (mB 127) 31 = .ok (.getfield 265, 3) := by decide +kernel
theorem d127_34 : decode (mB 127) 34 = .ok (.iconst (-1), 1) := by decide +kernel
theorem d127_35 : decode (mB 127) 35 = .ok (.iastore, 1) := by decide +kernel
theorem d127_36 : decode (mB 127) 36 = .ok (.aload_n 0, 1) := by decide +kernel
theorem d127_37 : decode (mB 127) 37 = .ok (.invokevirtual 262, 3) := by decide +kernel
theorem d127_40 : decode (mB 127) 40 = .ok (.aload_n 0, 1) := by decide +kernel
theorem d127_41 : decode (mB 127) 41 = .ok (.getfield 252, 3) := by decide +kernel
theorem d127_44 : decode (mB 127) 44 = .ok (.ifCond .ne 70, 3) := by decide +kernel
theorem d127_47 : decode (mB 127) 47 = .ok (.aload_n 0, 1) := by decide +kernel
theorem d127_48 : decode (mB 127) 48 = .ok (.getfield 221, 3) := by decide +kernel
theorem d127_51 : decode (mB 127) 51 = .ok (.ifCond .ne 10, 3) := by decide +kernel
theorem d127_54 : decode (mB 127) 54 = .ok (.aload_n 0, 1) := by decide +kernel
theorem d127_55 : decode (mB 127) 55 = .ok (.getfield 298, 3) := by decide +kernel
theorem d127_58 : decode (mB 127) 58 = .ok (.ifCond .eq 56, 3) := by decide +kernel
theorem d127_61 : decode (mB 127) 61 = .ok (.aload_n 0, 1) := by decide +kernel
theorem d127_62 : decode (mB 127) 62 = .ok (.getfield 221, 3) := by decide +kernel
theorem d127_65 : decode (mB 127) 65 = .ok (.ifCond .eq 19, 3) := by decide +kernel
theorem d127_68 : decode (mB 127) 68 = .ok (.aload_n 0, 1) := by decide +kernel
theorem d127_69 : decode (mB 127) 69 = .ok (.bipush 125, 2) := by decide +kernel
theorem d127_71 : decode (mB 127) 71 = .ok (.invokevirtual 256, 3) := by decide +kernel
theorem d127_74 : decode (mB 127) 74 = .ok (.ifCond .eq 17, 3) := by decide +kernel
theorem d127_77 : decode (mB 127) 77 = .ok (.aload_n 0, 1) := by decide +kernel
theorem d127_78 : decode (mB 127) 78 = .ok (.getfield 298, 3) := by decide +kernel
theorem d127_81 : decode (mB 127) 81 = .ok (.ifCond .ne 10, 3) := by decide +kernel
theorem d127_84 : decode (mB 127) 84 = .ok (.aload_n 0, 1) := by decide +kernel
theorem d127_85 : decode (mB 127) 85 = .ok (.invokevirtual 259, 3) := by decide +kernel
theorem d127_88 : decode (mB 127) 88 = .ok (.goto (-48), 3) := by decide +kernel
theorem d127_91 : decode (mB 127) 91 = .ok (.aload_n 0, 1) := by decide +kernel
theorem d127_92 : decode (mB 127) 92 = .ok (.bipush 125, 2) := by decide +kernel
theorem d127_94 : decode (mB 127) 94 = .ok (.invokevirtual 256, 3) := by decide +kernel
theorem d127_97 : decode (mB 127) 97 = .ok (.ifCond .eq 10, 3) := by decide +kernel
theorem d127_100 : decode (mB 127) 100 = .ok (.aload_n 0, 1) := by decide +kernel
theorem d127_101 : decode (mB 127) 101 = .ok (.invokevirtual 301, 3) := by decide +kernel
theorem d127_104 : decode (mB 127) 104 = .ok (.goto (-64), 3) := by decide +kernel
theorem d127_107 : decode (mB 127) 107 = .ok (.aload_n 0, 1) := by decide +kernel
theorem d127_108 : decode (mB 127) 108 = .ok (.invokevirtual 304, 3) := by decide +kernel
theorem d127_111 : decode (mB 127) 111 = .ok (.goto (-71), 3) := by decide +kernel
theorem d127_114 : decode (mB 127) 114 = .ok (.return_, 1) := by decide +kernel
theorem d136_0 : decode (mB 136) 0 = .ok (.aload_n 0, 1) := by decide +kernel
theorem d136_1 : decode (mB 136) 1 = .ok (.getfield 74, 3) := by decide +kernel
theorem d136_4 : decode (mB 136) 4 = .ok (.aload_n 0, 1) := by decide +kernel
theorem d136_5 : decode (mB 136) 5 = .ok (.getfield 298, 3) := by decide +kernel
theorem d136_8 : decode (mB 136) 8 = .ok (.iaload, 1) := by decide +kernel
theorem d136_9 : decode (mB 136) 9 = .ok (.istore_n 1, 1) := by decide +kernel
theorem d136_10 : decode (mB 136) 10 = .ok (.aload_n 0, 1) := by decide +kernel
theorem d136_11 : decode (mB 136) 11 = .ok (.getfield 77, 3) := by decide +kernel
theorem d136_14 : decode (mB 136) 14 = .ok (.aload_n 0, 1) := by decide +kernel
theorem d136_15 : decode (mB 136) 15 = .ok (.getfield 298, 3) := by decide +kernel
theorem d136_18 : decode (mB 136) 18 = .ok (.iaload, 1) := by decide +kernel
theorem d136_19 : decode (mB 136) 19 = .ok (.istore_n 2, 1) := by decide +kernel
theorem d136_20 : decode (mB 136) 20 = .ok (.aload_n 0, 1) := by decide +kernel
theorem d136_21 : decode (mB 136) 21 = .ok (.getfield 33, 3) := by decide +kernel
theorem d136_24 : decode (mB 136) 24 = .ok (.iload_n 1, 1) := by decide +kernel
theorem d136_25 : decode (mB 136) 25 = .ok (.iaload, 1) := by decide +kernel
theorem d136_26 : decode (mB 136) 26 = .ok (.istore_n 3, 1) := by decide +kernel
theorem d136_27 : decode (mB 136) 27 = .ok (.aload_n 0, 1) := by decide +kernel
theorem d136_28 : decode (mB 136) 28 = .ok (.dup, 1) := by decide +kernel
theorem d136_29 : decode (mB 136) 29 = .ok (.getfield 298, 3) := by decide +kernel
theorem d136_32 : decode (mB 136) 32 = .ok (.iconst 1, 1) := by decide +kernel
theorem d136_33 : decode (mB 136) 33 = .ok (.isub, 1) := by decide +kernel
theorem d136_34 : decode (mB 136) 34 = .ok (.putfield 298, 3) := by decide +kernel
theorem d136_37 : decode (mB 136) 37 = .ok (.aload_n 0, 1) := by decide +kernel
theorem d136_38 : decode (mB 136) 38 = .ok (.invokevirtual 262, 3) := by decide +kernel
theorem d136_41 : decode (mB 136) 41 = .ok (.iload_n 3, 1) := by decide +kernel
theorem d136_42 : decode (mB 136) 42 = .ok (.bipush 15, 2) := by decide +kernel
theorem d136_44 : decode (mB 136) 44 = .ok (.if_icmp .ne 34, 3) := by decide +kernel
theorem d136_47 : decode (mB 136) 47 = .ok (.iload_n 2, 1) := by decide +kernel
theorem d136_48 : decode (mB 136) 48 = .ok (.iconst 2, 1) := by decide +kernel
theorem d136_49 : decode (mB 136) 49 = .ok (.if_icmp .ge 29, 3) := by decide +kernel
theorem d136_52 : decode (mB 136) 52 = .ok (.aload_n 0, 1) := by decide +kernel
theorem d136_53 : decode (mB 136) 53 = .ok (.iload_n 2, 1) := by decide +kernel
theorem d136_54 : decode (mB 136) 54 = .ok (.ifCond .ne 8, 3) := by decide +kernel
theorem d136_57 : decode (mB 136) 57 = .ok (.bipush 16, 2) := by decide +kernel
theorem d136_59 : decode (mB 136) 59 = .ok (.goto 5, 3) := by decide +kernel
theorem d136_62 : decode (mB 136) 62 = .ok (.bipush 17, 2) := by decide +kernel
theorem d136_64 : decode (mB 136) 64 = .ok (.invokevirtual 307, 3) := by decide +kernel
theorem d136_67 : decode (mB 136) 67 = .ok (.aload_n 0, 1) := by decide +kernel
theorem d136_68 : decode (mB 136) 68 = .ok (.iload_n 1, 1) := by decide +kernel
theorem d136_69 : decode (mB 136) 69 = .ok (.iload_n 2, 1) := by decide +kernel
theorem d136_70 : decode (mB 136) 70 = .ok (.iconst 1, 1) := by decide +kernel
theorem d136_71 : decode (mB 136) 71 = .ok (.iadd, 1) := by decide +kernel
theorem d136_72 : decode (mB 136) 72 = .ok (.invokevirtual 310, 3) := by decide +kernel
theorem d136_75 : decode (mB 136) 75 = .ok (.goto 76, 3) := by decide +kernel
theorem d136_78 : decode (mB 136) 78 = .ok (.iload_n 3, 1) := by decide +kernel
theorem d136_79 : decode (mB 136) 79 = .ok (.bipush 13, 2) := by decide +kernel
theorem d136_81 : decode (mB 136) 81 = .ok (.if_icmp .ne 36, 3) := by decide +kernel
theorem d136_84 : decode (mB 136) 84 = .ok (.iload_n 2, 1) := by decide +kernel
theorem d136_85 : decode (mB 136) 85 = .ok (.ifCond .ne 32, 3) := by decide +kernel
theorem d136_88 : decode (mB 136) 88 = .ok (.aload_n 0, 1) := by decide +kernel
theorem d136_89 : decode (mB 136) 89 = .ok (.bipush 14, 2) := by decide +kernel
theorem d136_91 : decode (mB 136) 91 = .ok (.invokevirtual 307, 3) := by decide +kernel
theorem d136_94 : decode (mB 136) 94 = .ok (.aload_n 0, 1) := by decide +kernel
theorem d136_95 : decode (mB 136) 95 = .ok (.getfield 49, 3) := by decide +kernel
theorem d136_98 : decode (mB 136) 98 = .ok (.iload_n 1, 1) := by decide +kernel
theorem d136_99 : decode (mB 136) 99 = .ok (.aload_n 0, 1) := by decide +kernel
theorem d136_100 : decode (mB 136) 100 = .ok (.getfield 228, 3) := by decide +kernel
theorem d136_103 : decode (mB 136) 103 = .ok (.iastore, 1) := by decide +kernel
theorem d136_104 : decode (mB 136) 104 = .ok (.aload_n 0, 1) := by decide +kernel
theorem d136_105 : decode (mB 136) 105 = .ok (.invokevirtual 314, 3) := by decide +kernel
theorem d136_108 : decode (mB 136) 108 = .ok (.aload_n 0, 1) := by decide +kernel
theorem d136_109 : decode (mB 136) 109 = .ok (.iload_n 1, 1) := by decide +kernel
theorem d136_110 : decode (mB 136) 110 = .ok (.iconst 1, 1) := by decide +kernel
theorem d136_111 : decode (mB 136) 111 = .ok (.invokevirtual 310, 3) := by decide +kernel
theorem d136_114 : decode (mB 136) 114 = .ok (.goto 37, 3) := by decide +kernel
theorem d136_117 : decode (mB 136) 117 = .ok (.iload_n 3, 1) := by decide +kernel
theorem d136_118 : decode (mB 136) 118 = .ok (.iconst 1, 1) := by decide +kernel
theorem d136_119 : decode (mB 136) 119 = .ok (.if_icmp .eq 9, 3) := by decide +kernel
theorem d136_122 : decode (mB 136) 122 = .ok (.iload_n 3, 1) := by decide +kernel
theorem d136_123 : decode (mB 136) 123 = .ok (.bipush 18, 2) := by decide +kernel
theorem d136_125 : decode (mB 136) 125 = .ok (.if_icmp .ne 26, 3) := by decide +kernel
theorem d136_128 : decode (mB 136) 128 = .ok (.iload_n 2, 1) := by decide +kernel
theorem d136_129 : decode (mB 136) 129 = .ok (.ifCond .ne 22, 3) := by decide +kernel
theorem d136_132 : decode (mB 136) 132 = .ok (.aload_n 0, 1) := by decide +kernel
theorem d136_133 : decode (mB 136) 133 = .ok (.getfield 221, 3) := by decide +kernel
theorem d136_136 : decode (mB 136) 136 = .ok (.bipush 12, 2) := by decide +kernel
theorem d136_138 : decode (mB 136) 138 = .ok (.if_icmp .ne 13, 3) := by decide +kernel
theorem d136_141 : decode (mB 136) 141 = .ok (.aload_n 0, 1) := by decide +kernel
theorem d136_142 : decode (mB 136) 142 = .ok (.invokevirtual 262, 3) := by decide +kernel
theorem d136_145 : decode (mB 136) 145 = .ok (.aload_n 0, 1) := by decide +kernel
theorem d136_146 : decode (mB 136) 146 = .ok (.iload_n 1, 1) := by decide +kernel
theorem d136_147 : decode (mB 136) 147 = .ok (.iconst 1, 1) := by decide +kernel
theorem d136_148 : decode (mB 136) 148 = .ok (.invokevirtual 310, 3) := by decide +kernel
theorem d136_151 : decode (mB 136) 151 = .ok (.return_, 1) := by decide +kernel
theorem d139_0 : decode (mB 139) 0 = .ok (.aload_n 0, 1) := by decide +kernel
theorem d139_1 : decode (mB 139) 1 = .ok (.invokevirtual 295, 3) := by decide +kernel
theorem d139_4 : decode (mB 139) 4 = .ok (.ifCond .ne 7, 3) := by decide +kernel
theorem d139_7 : decode (mB 139) 7 = .ok (.aload_n 0, 1) := by decide +kernel
theorem d139_8 : decode (mB 139) 8 = .ok (.invokevirtual 259, 3) := by decide +kernel
theorem d139_11 : decode (mB 139) 11 = .ok (.aload_n 0, 1) := by decide +kernel
theorem d139_12 : decode (mB 139) 12 = .ok (.getfield 252, 3) := by decide +kernel
theorem d139_15 : decode (mB 139) 15 = .ok (.ifCond .ne 7, 3) := by decide +kernel
theorem d139_18 : decode (mB 139) 18 = .ok (.aload_n 0, 1) := by decide +kernel
theorem d139_19 : decode (mB 139) 19 = .ok (.invokevirtual 262, 3) := by decide +kernel
theorem d139_22 : decode (mB 139) 22 = .ok (.return_, 1) := by decide +kernel
theorem d152_0 : decode (mB 152) 0 = .ok (.aload_n 0, 1) := by decide +kernel
theorem d152_1 : decode (mB 152) 1 = .ok (.getfield 221, 3) := by decide +kernel
theorem d152_4 : decode (mB 152) 4 = .ok (.iconst 2, 1) := by decide +kernel
theorem d152_5 : decode (mB 152) 5 = .ok (.if_icmp .ne 12, 3) := by decide +kernel
theorem d152_8 : decode (mB 152) 8 = .ok (.aload_n 0, 1) := by decide +kernel
theorem d152_9 : decode (mB 152) 9 = .ok (.getfield 228, 3) := by decide +kernel
theorem d152_12 : decode (mB 152) 12 = .ok (.bipush 8, 2) := by decide +kernel
theorem d152_14 : decode (mB 152) 14 = .ok (.if_icmp .lt 7, 3) := by decide +kernel
theorem d152_17 : decode (mB 152) 17 = .ok (.aload_n 0, 1) := by decide +kernel
theorem d152_18 : decode (mB 152) 18 = .ok (.invokevirtual 259, 3) := by decide +kernel
theorem d152_21 : decode (mB 152) 21 = .ok (.aload_n 0, 1) := by decide +kernel
theorem d152_22 : decode (mB 152) 22 = .ok (.getfield 52, 3) := by decide +kernel
theorem d152_25 : decode (mB 152) 25 = .ok (.iload_n 1, 1) := by decide +kernel
theorem d152_26 : decode (mB 152) 26 = .ok (.aload_n 0, 1) := by decide +kernel
theorem d152_27 : decode (mB 152) 27 = .ok (.getfield 228, 3) := by decide +kernel
theorem d152_30 : decode (mB 152) 30 = .ok (.iastore, 1) := by decide +kernel
theorem d152_31 : decode (mB 152) 31 = .ok (.aload_n 0, 1) := by decide +kernel
theorem d152_32 : decode (mB 152) 32 = .ok (.getfield 252, 3) := by decide +kernel
theorem d152_35 : decode (mB 152) 35 = .ok (.ifCond .ne 7, 3) := by decide +kernel
theorem d152_38 : decode (mB 152) 38 = .ok (.aload_n 0, 1) := by decide +kernel
theorem d152_39 : decode (mB 152) 39 = .ok (.invokevirtual 262, 3) := by decide +kernel
theorem d152_42 : decode (mB 152) 42 = .ok (.return_, 1) := by decide +kernel
theorem d153_0 : decode (mB 153) 0 = .ok (.aload_n 0, 1) := by decide +kernel
theorem d153_1 : decode (mB 153) 1 = .ok (.getfield 221, 3) := by decide +kernel
theorem d153_4 : decode (mB 153) 4 = .ok (.iconst 3, 1) := by decide +kernel
theorem d153_5 : decode (mB 153) 5 = .ok (.if_icmp .ne 12, 3) := by decide +kernel
theorem d153_8 : decode (mB 153) 8 = .ok (.aload_n 0, 1) := by decide +kernel
theorem d153_9 : decode (mB 153) 9 = .ok (.getfield 238, 3) := by decide +kernel
theorem d153_12 : decode (mB 153) 12 = .ok (.lload_n 2, 1) := by decide +kernel
theorem d153_13 : decode (mB 153) 13 = .ok (.lcmp, 1) := by decide +kernel
theorem d153_14 : decode (mB 153) 14 = .ok (.ifCond .le 7, 3) := by decide +kernel
theorem d153_17 : decode (mB 153) 17 = .ok (.aload_n 0, 1) := by decide +kernel
theorem d153_18 : decode (mB 153) 18 = .ok (.invokevirtual 259, 3) := by decide +kernel
theorem d153_21 : decode (mB 153) 21 = .ok (.aload_n 0, 1) := by decide +kernel
theorem d153_22 : decode (mB 153) 22 = .ok (.getfield 252, 3) := by decide +kernel
theorem d153_25 : decode (mB 153) 25 = .ok (.ifCond .ne 18, 3) := by decide +kernel
theorem d153_28 : decode (mB 153) 28 = .ok (.aload_n 0, 1) := by decide +kernel
theorem d153_29 : decode (mB 153) 29 = .ok (.getfield 55, 3) := by decide +kernel
theorem d153_32 : decode (mB 153) 32 = .ok (.iload_n 1, 1) := by decide +kernel
theorem d153_33 : decode (mB 153) 33 = .ok (.aload_n 0, 1) := by decide +kernel
theorem d153_34 : decode (mB 153) 34 = .ok (.getfield 238, 3) := by decide +kernel
theorem d153_37 : decode (mB 153) 37 = .ok (.l2i, 1) := by decide +kernel
theorem d153_38 : decode (mB 153) 38 = .ok (.iastore, 1) := by decide +kernel
theorem d153_39 : decode (mB 153) 39 = .ok (.aload_n 0, 1) := by decide +kernel
theorem d153_40 : decode (mB 153) 40 = .ok (.invokevirtual 262, 3) := by decide +kernel
theorem d153_43 : decode (mB 153) 43 = .ok (.return_, 1) := by decide +kernel
theorem d143_0 : decode (mB 143) 0 = .ok (.bipush 40, 2) := by decide +kernel
theorem d143_2 : decode (mB 143) 2 = .ok (.aload_n 0, 1) := by decide +kernel
theorem d143_3 : decode (mB 143) 3 = .ok (.getfield 265, 3) := by decide +kernel
theorem d143_6 : decode (mB 143) 6 = .ok (.imul, 1) := by decide +kernel
theorem d143_7 : decode (mB 143) 7 = .ok (.aload_n 0, 1) := by decide +kernel
theorem d143_8 : decode (mB 143) 8 = .ok (.getfield 17, 3) := by decide +kernel
theorem d143_11 : decode (mB 143) 11 = .ok (.aload_n 0, 1) := by decide +kernel
theorem d143_12 : decode (mB 143) 12 = .ok (.getfield 265, 3) := by decide +kernel
theorem d143_15 : decode (mB 143) 15 = .ok (.iaload, 1) := by decide +kernel
theorem d143_16 : decode (mB 143) 16 = .ok (.iadd, 1) := by decide +kernel
theorem d143_17 : decode (mB 143) 17 = .ok (.istore_n 1, 1) := by decide +kernel
theorem d143_18 : decode (mB 143) 18 = .ok (.aload_n 0, 1) := by decide +kernel
theorem d143_19 : decode (mB 143) 19 = .ok (.getfield 17, 3) := by decide +kernel
theorem d143_22 : decode (mB 143) 22 = .ok (.aload_n 0, 1) := by decide +kernel
theorem d143_23 : decode (mB 143) 23 = .ok (.getfield 265, 3) := by decide +kernel
theorem d143_26 : decode (mB 143) 26 = .ok (.dup2, 1) := by decide +kernel
theorem d143_27 : decode (mB 143) 27 = .ok (.iaload, 1) := by decide +kernel
theorem d143_28 : decode (mB 143) 28 = .ok (.iconst 1, 1) := by decide +kernel
theorem d143_29 : decode (mB 143) 29 = .ok (.iadd, 1) := by decide +kernel
theorem d143_30 : decode (mB 143) 30 = .ok (.iastore, 1) := by decide +kernel
theorem d143_31 : decode (mB 143) 31 = .ok (.aload_n 0, 1) := by decide +kernel
theorem d143_32 : decode (mB 143) 32 = .ok (.getfield 36, 3) := by decide +kernel
theorem d143_35 : decode (mB 143) 35 = .ok (.iload_n 1, 1) := by decide +kernel
theorem d143_36 : decode (mB 143) 36 = .ok (.iconst (-1), 1) := by decide +kernel
theorem d143_37 : decode (mB 143) 37 = .ok (.iastore, 1) := by decide +kernel
theorem d143_38 : decode (mB 143) 38 = .ok (.aload_n 0, 1) := by decide +kernel
theorem d143_39 : decode (mB 143) 39 = .ok (.getfield 39, 3) := by decide +kernel
theorem d143_42 : decode (mB 143) 42 = .ok (.iload_n 1, 1) := by decide +kernel
theorem d143_43 : decode (mB 143) 43 = .ok (.iconst (-1), 1) := by decide +kernel
theorem d143_44 : decode (mB 143) 44 = .ok (.iastore, 1) := by decide +kernel
theorem d143_45 : decode (mB 143) 45 = .ok (.aload_n 0, 1) := by decide +kernel
theorem d143_46 : decode (mB 143) 46 = .ok (.getfield 49, 3) := by decide +kernel
theorem d143_49 : decode (mB 143) 49 = .ok (.iload_n 1, 1) := by decide +kernel
theorem d143_50 : decode (mB 143) 50 = .ok (.iconst (-1), 1) := by decide +kernel
theorem d143_51 : decode (mB 143) 51 = .ok (.iastore, 1) := by decide +kernel
theorem d143_52 : decode (mB 143) 52 = .ok (.iconst 0, 1) := by decide +kernel
theorem d143_53 : decode (mB 143) 53 = .ok (.istore_n 2, 1) := by decide +kernel
theorem d143_54 : decode (mB 143) 54 = .ok (.iload_n 2, 1) := by decide +kernel
theorem d143_55 : decode (mB 143) 55 = .ok (.iconst 3, 1) := by decide +kernel
theorem d143_56 : decode (mB 143) 56 = .ok (.if_icmp .ge 31, 3) := by decide +kernel
theorem d143_59 : decode (mB 143) 59 = .ok (.aload_n 0, 1) := by decide +kernel
theorem d143_60 : decode (mB 143) 60 = .ok (.getfield 42, 3) := by decide +kernel
theorem d143_63 : decode (mB 143) 63 = .ok (.iconst 3, 1) := by decide +kernel
theorem d143_64 : decode (mB 143) 64 = .ok (.iload_n 1, 1) := by decide +kernel
theorem d143_65 : decode (mB 143) 65 = .ok (.imul, 1) := by decide +kernel
theorem d143_66 : decode (mB 143) 66 = .ok (.iload_n 2, 1) := by decide +kernel
theorem d143_67 : decode (mB 143) 67 = .ok (.iadd, 1) := by decide +kernel
theorem d143_68 : decode (mB 143) 68 = .ok (.iconst (-1), 1) := by decide +kernel
theorem d143_69 : decode (mB 143) 69 = .ok (.iastore, 1) := by decide +kernel
theorem d143_70 : decode (mB 143) 70 = .ok (.aload_n 0, 1) := by decide +kernel
theorem d143_71 : decode (mB 143) 71 = .ok (.getfield 45, 3) := by decide +kernel
theorem d143_74 : decode (mB 143) 74 = .ok (.iconst 3, 1) := by decide +kernel
theorem d143_75 : decode (mB 143) 75 = .ok (.iload_n 1, 1) := by decide +kernel
theorem d143_76 : decode (mB 143) 76 = .ok (.imul, 1) := by decide +kernel
theorem d143_77 : decode (mB 143) 77 = .ok (.iload_n 2, 1) := by decide +kernel
theorem d143_78 : decode (mB 143) 78 = .ok (.iadd, 1) := by decide +kernel
theorem d143_79 : decode (mB 143) 79 = .ok (.iconst 0, 1) := by decide +kernel
theorem d143_80 : decode (mB 143) 80 = .ok (.bastore, 1) := by decide +kernel
theorem d143_81 : decode (mB 143) 81 = .ok (.iinc 2 1, 3) := by decide +kernel
theorem d143_84 : decode (mB 143) 84 = .ok (.goto (-30), 3) := by decide +kernel
theorem d143_87 : decode (mB 143) 87 = .ok (.aload_n 0, 1) := by decide +kernel
theorem d143_88 : decode (mB 143) 88 = .ok (.getfield 80, 3) := by decide +kernel
theorem d143_91 : decode (mB 143) 91 = .ok (.aload_n 0, 1) := by decide +kernel
theorem d143_92 : decode (mB 143) 92 = .ok (.getfield 298, 3) := by decide +kernel
theorem d143_95 : decode (mB 143) 95 = .ok (.iaload, 1) := by decide +kernel
theorem d143_96 : decode (mB 143) 96 = .ok (.istore_n 2, 1) := by decide +kernel
theorem d143_97 : decode (mB 143) 97 = .ok (.aload_n 0, 1) := by decide +kernel
theorem d143_98 : decode (mB 143) 98 = .ok (.getfield 74, 3) := by decide +kernel
theorem d143_101 : decode (mB 143) 101 = .ok (.aload_n 0, 1) := by decide +kernel
theorem d143_102 : decode (mB 143) 102 = .ok (.getfield 298, 3) := by decide +kernel
theorem d143_105 : decode (mB 143) 105 = .ok (.iaload, 1) := by decide +kernel
theorem d143_106 : decode (mB 143) 106 = .ok (.istore_n 3, 1) := by decide +kernel
theorem d143_107 : decode (mB 143) 107 = .ok (.iload_n 2, 1) := by decide +kernel
theorem d143_108 : decode (mB 143) 108 = .ok (.ifCond .lt 13, 3) := by decide +kernel
theorem d143_111 : decode (mB 143) 111 = .ok (.aload_n 0, 1) := by decide +kernel
theorem d143_112 : decode (mB 143) 112 = .ok (.getfield 36, 3) := by decide +kernel
theorem d143_115 : decode (mB 143) 115 = .ok (.iload_n 2, 1) := by decide +kernel
theorem d143_116 : decode (mB 143) 116 = .ok (.iload_n 1, 1) := by decide +kernel
theorem d143_117 : decode (mB 143) 117 = .ok (.iastore, 1) := by decide +kernel
theorem d143_118 : decode (mB 143) 118 = .ok (.goto 39, 3) := by decide +kernel
theorem d143_121 : decode (mB 143) 121 = .ok (.iload_n 3, 1) := by decide +kernel
theorem d143_122 : decode (mB 143) 122 = .ok (.ifCond .ge 16, 3) := by decide +kernel
theorem d143_125 : decode (mB 143) 125 = .ok (.aload_n 0, 1) := by decide +kernel
theorem d143_126 : decode (mB 143) 126 = .ok (.getfield 27, 3) := by decide +kernel
theorem d143_129 : decode (mB 143) 129 = .ok (.aload_n 0, 1) := by decide +kernel
theorem d143_130 : decode (mB 143) 130 = .ok (.getfield 265, 3) := by decide +kernel
theorem d143_133 : decode (mB 143) 133 = .ok (.iload_n 1, 1) := by decide +kernel
theorem d143_134 : decode (mB 143) 134 = .ok (.iastore, 1) := by decide +kernel
theorem d143_135 : decode (mB 143) 135 = .ok (.goto 22, 3) := by decide +kernel
theorem d143_138 : decode (mB 143) 138 = .ok (.aload_n 0, 1) := by decide +kernel
theorem d143_139 : decode (mB 143) 139 = .ok (.getfield 42, 3) := by decide +kernel
theorem d143_142 : decode (mB 143) 142 = .ok (.iconst 3, 1) := by decide +kernel
theorem d143_143 : decode (mB 143) 143 = .ok (.iload_n 3, 1) := by decide +kernel
theorem d143_144 : decode (mB 143) 144 = .ok (.imul, 1) := by decide +kernel
theorem d143_145 : decode (mB 143) 145 = .ok (.aload_n 0, 1) := by decide +kernel
theorem d143_146 : decode (mB 143) 146 = .ok (.getfield 77, 3) := by decide +kernel
theorem d143_149 : decode (mB 143) 149 = .ok (.aload_n 0, 1) := by decide +kernel
theorem d143_150 : decode (mB 143) 150 = .ok (.getfield 298, 3) := by decide +kernel
theorem d143_153 : decode (mB 143) 153 = .ok (.iaload, 1) := by decide +kernel
theorem d143_154 : decode (mB 143) 154 = .ok (.iadd, 1) := by decide +kernel
theorem d143_155 : decode (mB 143) 155 = .ok (.iload_n 1, 1) := by decide +kernel
theorem d143_156 : decode (mB 143) 156 = .ok (.iastore, 1) := by decide +kernel
theorem d143_157 : decode (mB 143) 157 = .ok (.aload_n 0, 1) := by decide +kernel
theorem d143_158 : decode (mB 143) 158 = .ok (.getfield 80, 3) := by decide +kernel
theorem d143_161 : decode (mB 143) 161 = .ok (.aload_n 0, 1) := by decide +kernel
theorem d143_162 : decode (mB 143) 162 = .ok (.getfield 298, 3) := by decide +kernel
theorem d143_165 : decode (mB 143) 165 = .ok (.iload_n 1, 1) := by decide +kernel
theorem d143_166 : decode (mB 143) 166 = .ok (.iastore, 1) := by decide +kernel
theorem d143_167 : decode (mB 143) 167 = .ok (.iload_n 1, 1) := by decide +kernel
theorem d143_168 : decode (mB 143) 168 = .ok (.ireturn, 1) := by decide +kernel
theorem d142_0 : decode (mB 142) 0 = .ok (.iload_n 0, 1) := by decide +kernel
theorem d142_1 : decode (mB 142) 1 = .ok (.ifCond .eq 72, 3) := by decide +kernel
theorem d142_4 : decode (mB 142) 4 = .ok (.iload_n 0, 1) := by decide +kernel
theorem d142_5 : decode (mB 142) 5 = .ok (.iconst 1, 1) := by decide +kernel
theorem d142_6 : decode (mB 142) 6 = .ok (.if_icmp .eq 67, 3) := by decide +kernel
theorem d142_9 : decode (mB 142) 9 = .ok (.iload_n 0, 1) := by decide +kernel
theorem d142_10 : decode (mB 142) 10 = .ok (.iconst 3, 1) := by decide +kernel
theorem d142_11 : decode (mB 142) 11 = .ok (.if_icmp .eq 62, 3) := by decide +kernel
theorem d142_14 : decode (mB 142) 14 = .ok (.iload_n 0, 1) := by decide +kernel
theorem d142_15 : decode (mB 142) 15 = .ok (.iconst 4, 1) := by decide +kernel
theorem d142_16 : decode (mB 142) 16 = .ok (.if_icmp .eq 57, 3) := by decide +kernel
theorem d142_19 : decode (mB 142) 19 = .ok (.iload_n 0, 1) := by decide +kernel
theorem d142_20 : decode (mB 142) 20 = .ok (.bipush 6, 2) := by decide +kernel
theorem d142_22 : decode (mB 142) 22 = .ok (.if_icmp .eq 51, 3) := by decide +kernel
theorem d142_25 : decode (mB 142) 25 = .ok (.iload_n 0, 1) := by decide +kernel
theorem d142_26 : decode (mB 142) 26 = .ok (.bipush 8, 2) := by decide +kernel
theorem d142_28 : decode (mB 142) 28 = .ok (.if_icmp .eq 45, 3) := by decide +kernel
theorem d142_31 : decode (mB 142) 31 = .ok (.iload_n 0, 1) := by decide +kernel
theorem d142_32 : decode (mB 142) 32 = .ok (.bipush 9, 2) := by decide +kernel
theorem d142_34 : decode (mB 142) 34 = .ok (.if_icmp .eq 39, 3) := by decide +kernel
theorem d142_37 : decode (mB 142) 37 = .ok (.iload_n 0, 1) := by decide +kernel
theorem d142_38 : decode (mB 142) 38 = .ok (.bipush 10, 2) := by decide +kernel
theorem d142_40 : decode (mB 142) 40 = .ok (.if_icmp .eq 33, 3) := by decide +kernel
theorem d142_43 : decode (mB 142) 43 = .ok (.iload_n 0, 1) := by decide +kernel
theorem d142_44 : decode (mB 142) 44 = .ok (.bipush 11, 2) := by decide +kernel
theorem d142_46 : decode (mB 142) 46 = .ok (.if_icmp .eq 27, 3) := by decide +kernel
theorem d142_49 : decode (mB 142) 49 = .ok (.iload_n 0, 1) := by decide +kernel
theorem d142_50 : decode (mB 142) 50 = .ok (.bipush 12, 2) := by decide +kernel
theorem d142_52 : decode (mB 142) 52 = .ok (.if_icmp .eq 21, 3) := by decide +kernel
theorem d142_55 : decode (mB 142) 55 = .ok (.iload_n 0, 1) := by decide +kernel
theorem d142_56 : decode (mB 142) 56 = .ok (.bipush 13, 2) := by decide +kernel
theorem d142_58 : decode (mB 142) 58 = .ok (.if_icmp .eq 15, 3) := by decide +kernel
theorem d142_61 : decode (mB 142) 61 = .ok (.iload_n 0, 1) := by decide +kernel
theorem d142_62 : decode (mB 142) 62 = .ok (.bipush 15, 2) := by decide +kernel
theorem d142_64 : decode (mB 142) 64 = .ok (.if_icmp .eq 9, 3) := by decide +kernel
theorem d142_67 : decode (mB 142) 67 = .ok (.iload_n 0, 1) := by decide +kernel
theorem d142_68 : decode (mB 142) 68 = .ok (.bipush 18, 2) := by decide +kernel
theorem d142_70 : decode (mB 142) 70 = .ok (.if_icmp .ne 7, 3) := by decide +kernel
theorem d142_73 : decode (mB 142) 73 = .ok (.iconst 1, 1) := by decide +kernel
theorem d142_74 : decode (mB 142) 74 = .ok (.goto 4, 3) := by decide +kernel
theorem d142_77 : decode (mB 142) 77 = .ok (.iconst 0, 1) := by decide +kernel
theorem d142_78 : decode (mB 142) 78 = .ok (.ireturn, 1) := by decide +kernel
theorem d141_0 : decode (mB 141) 0 = .ok (.aload_n 0, 1) := by decide +kernel
theorem d141_1 : decode (mB 141) 1 = .ok (.invokevirtual 295, 3) := by decide +kernel
theorem d141_4 : decode (mB 141) 4 = .ok (.istore_n 1, 1) := by decide +kernel
theorem d141_5 : decode (mB 141) 5 = .ok (.aload_n 0, 1) := by decide +kernel
theorem d141_6 : decode (mB 141) 6 = .ok (.getfield 221, 3) := by decide +kernel
theorem d141_9 : decode (mB 141) 9 = .ok (.bipush 10, 2) := by decide +kernel
theorem d141_11 : decode (mB 141) 11 = .ok (.isub, 1) := by decide +kernel
theorem d141_12 : decode (mB 141) 12 = .ok (.istore_n 2, 1) := by decide +kernel
theorem d141_13 : decode (mB 141) 13 = .ok (.iload_n 1, 1) := by decide +kernel
theorem d141_14 : decode (mB 141) 14 = .ok (.ifCond .ne 10, 3) := by decide +kernel
theorem d141_17 : decode (mB 141) 17 = .ok (.iload_n 2, 1) := by decide +kernel
theorem d141_18 : decode (mB 141) 18 = .ok (.invokestatic 317, 3) := by decide +kernel
theorem d141_21 : decode (mB 141) 21 = .ok (.ifCond .eq 17, 3) := by decide +kernel
theorem d141_24 : decode (mB 141) 24 = .ok (.aload_n 0, 1) := by decide +kernel
theorem d141_25 : decode (mB 141) 25 = .ok (.getfield 17, 3) := by decide +kernel
theorem d141_28 : decode (mB 141) 28 = .ok (.aload_n 0, 1) := by decide +kernel
theorem d141_29 : decode (mB 141) 29 = .ok (.getfield 265, 3) := by decide +kernel
theorem d141_32 : decode (mB 141) 32 = .ok (.iaload, 1) := by decide +kernel
theorem d141_33 : decode (mB 141) 33 = .ok (.bipush 40, 2) := by decide +kernel
theorem d141_35 : decode (mB 141) 35 = .ok (.if_icmp .ne 8, 3) := by decide +kernel
theorem d141_38 : decode (mB 141) 38 = .ok (.aload_n 0, 1) := by decide +kernel
theorem d141_39 : decode (mB 141) 39 = .ok (.invokevirtual 259, 3) := by decide +kernel
theorem d141_42 : decode (mB 141) 42 = .ok (.return_, 1) := by decide +kernel
theorem d141_43 : decode (mB 141) 43 = .ok (.aload_n 0, 1) := by decide +kernel
theorem d141_44 : decode (mB 141) 44 = .ok (.invokevirtual 320, 3) := by decide +kernel
theorem d141_47 : decode (mB 141) 47 = .ok (.istore_n 3, 1) := by decide +kernel
theorem d141_48 : decode (mB 141) 48 = .ok (.aload_n 0, 1) := by decide +kernel
theorem d141_49 : decode (mB 141) 49 = .ok (.getfield 33, 3) := by decide +kernel
theorem d141_52 : decode (mB 141) 52 = .ok (.iload_n 3, 1) := by decide +kernel
theorem d141_53 : decode (mB 141) 53 = .ok (.iload_n 1, 1) := by decide +kernel
theorem d141_54 : decode (mB 141) 54 = .ok (.ifCond .eq 8, 3) := by decide +kernel
theorem d141_57 : decode (mB 141) 57 = .ok (.bipush 30, 2) := by decide +kernel
theorem d141_59 : decode (mB 141) 59 = .ok (.goto 4, 3) := by decide +kernel
theorem d141_62 : decode (mB 141) 62 = .ok (.iload_n 2, 1) := by decide +kernel
theorem d141_63 : decode (mB 141) 63 = .ok (.iastore, 1) := by decide +kernel
theorem d141_64 : decode (mB 141) 64 = .ok (.aload_n 0, 1) := by decide +kernel
theorem d141_65 : decode (mB 141) 65 = .ok (.getfield 49, 3) := by decide +kernel
end
section
/-! what stands at each place of the code -/
theorem d141_68 : decode (mB 141) 68 = .ok (.iload_n 3, 1) := by decide +kernel
theorem d141_69 : decode (mB 141) 69 = .ok (.iload_n 1, 1) := by decide +kernel
theorem d141_70 : decode (mB 141) 70 = .ok (.ifCond .eq 10, 3) := by decide +kernel
theorem d141_73 : decode (mB 141) 73 = .ok (.aload_n 0, 1) := by decide +kernel
theorem d141_74 : decode (mB 141) 74 = .ok (.getfield 228, 3) := by decide +kernel
theorem d141_77 : decode (mB 141) 77 = .ok (.goto 4, 3) := by decide +kernel
theorem d141_80 : decode (mB 141) 80 = .ok (.iconst (-1), 1) := by decide +kernel
theorem d141_81 : decode (mB 141) 81 = .ok (.iastore, 1) := by decide +kernel
theorem d141_82 : decode (mB 141) 82 = .ok (.aload_n 0, 1) := by decide +kernel
theorem d141_83 : decode (mB 141) 83 = .ok (.invokevirtual 262, 3) := by decide +kernel
theorem d141_86 : decode (mB 141) 86 = .ok (.aload_n 0, 1) := by decide +kernel
theorem d141_87 : decode (mB 141) 87 = .ok (.getfield 33, 3) := by decide +kernel
theorem d141_90 : decode (mB 141) 90 = .ok (.iload_n 3, 1) := by decide +kernel
theorem d141_91 : decode (mB 141) 91 = .ok (.iaload, 1) := by decide +kernel
theorem d141_92 : decode (mB 141) 92 = .ok (.tableswitch 354 0 30 #[154, 162, 354, 162, 200, 354, 247, 354, 154, 291, 354, 354, 354, 354, 354, 354, 354, 354, 337, 354, 354, 354, 354, 354, 354, 354, 354, 354, 354, 354, 140], 140) := by decide +kernel
theorem d141_232 : decode (mB 141) 232 = .ok (.aload_n 0, 1) := by decide +kernel
theorem d141_233 : decode (mB 141) 233 = .ok (.bipush 61, 2) := by decide +kernel
theorem d141_235 : decode (mB 141) 235 = .ok (.invokevirtual 324, 3) := by decide +kernel
theorem d141_238 : decode (mB 141) 238 = .ok (.aload_n 0, 1) := by decide +kernel
theorem d141_239 : decode (mB 141) 239 = .ok (.iload_n 3, 1) := by decide +kernel
theorem d141_240 : decode (mB 141) 240 = .ok (.invokevirtual 327, 3) := by decide +kernel
theorem d141_243 : decode (mB 141) 243 = .ok (.goto 209, 3) := by decide +kernel
theorem d141_246 : decode (mB 141) 246 = .ok (.aload_n 0, 1) := by decide +kernel
theorem d141_247 : decode (mB 141) 247 = .ok (.iload_n 3, 1) := by decide +kernel
theorem d141_248 : decode (mB 141) 248 = .ok (.invokevirtual 327, 3) := by decide +kernel
theorem d141_251 : decode (mB 141) 251 = .ok (.goto 201, 3) := by decide +kernel
theorem d141_254 : decode (mB 141) 254 = .ok (.aload_n 0, 1) := by decide +kernel
theorem d141_255 : decode (mB 141) 255 = .ok (.bipush 40, 2) := by decide +kernel
theorem d141_257 : decode (mB 141) 257 = .ok (.invokevirtual 324, 3) := by decide +kernel
theorem d141_260 : decode (mB 141) 260 = .ok (.aload_n 0, 1) := by decide +kernel
theorem d141_261 : decode (mB 141) 261 = .ok (.getfield 252, 3) := by decide +kernel
theorem d141_264 : decode (mB 141) 264 = .ok (.ifCond .ne 13, 3) := by decide +kernel
theorem d141_267 : decode (mB 141) 267 = .ok (.aload_n 0, 1) := by decide +kernel
theorem d141_268 : decode (mB 141) 268 = .ok (.getfield 39, 3) := by decide +kernel
theorem d141_271 : decode (mB 141) 271 = .ok (.iload_n 3, 1) := by decide +kernel
theorem d141_272 : decode (mB 141) 272 = .ok (.aload_n 0, 1) := by decide +kernel
theorem d141_273 : decode (mB 141) 273 = .ok (.invokevirtual 330, 3) := by decide +kernel
theorem d141_276 : decode (mB 141) 276 = .ok (.iastore, 1) := by decide +kernel
theorem d141_277 : decode (mB 141) 277 = .ok (.aload_n 0, 1) := by decide +kernel
theorem d141_278 : decode (mB 141) 278 = .ok (.bipush 41, 2) := by decide +kernel
theorem d141_280 : decode (mB 141) 280 = .ok (.invokevirtual 324, 3) := by decide +kernel
theorem d141_283 : decode (mB 141) 283 = .ok (.aload_n 0, 1) := by decide +kernel
theorem d141_284 : decode (mB 141) 284 = .ok (.iload_n 3, 1) := by decide +kernel
theorem d141_285 : decode (mB 141) 285 = .ok (.iconst 0, 1) := by decide +kernel
theorem d141_286 : decode (mB 141) 286 = .ok (.invokevirtual 310, 3) := by decide +kernel
theorem d141_289 : decode (mB 141) 289 = .ok (.goto 163, 3) := by decide +kernel
theorem d141_292 : decode (mB 141) 292 = .ok (.aload_n 0, 1) := by decide +kernel
theorem d141_293 : decode (mB 141) 293 = .ok (.iload_n 3, 1) := by decide +kernel
theorem d141_294 : decode (mB 141) 294 = .ok (.invokevirtual 333, 3) := by decide +kernel
theorem d141_297 : decode (mB 141) 297 = .ok (.aload_n 0, 1) := by decide +kernel
theorem d141_298 : decode (mB 141) 298 = .ok (.getfield 252, 3) := by decide +kernel
theorem d141_301 : decode (mB 141) 301 = .ok (.ifCond .ne 8, 3) := by decide +kernel
theorem d141_304 : decode (mB 141) 304 = .ok (.aload_n 0, 1) := by decide +kernel
theorem d141_305 : decode (mB 141) 305 = .ok (.iconst 5, 1) := by decide +kernel
theorem d141_306 : decode (mB 141) 306 = .ok (.invokevirtual 307, 3) := by decide +kernel
theorem d141_309 : decode (mB 141) 309 = .ok (.aload_n 0, 1) := by decide +kernel
theorem d141_310 : decode (mB 141) 310 = .ok (.getfield 49, 3) := by decide +kernel
theorem d141_313 : decode (mB 141) 313 = .ok (.iload_n 3, 1) := by decide +kernel
theorem d141_314 : decode (mB 141) 314 = .ok (.aload_n 0, 1) := by decide +kernel
theorem d141_315 : decode (mB 141) 315 = .ok (.getfield 228, 3) := by decide +kernel
theorem d141_318 : decode (mB 141) 318 = .ok (.iastore, 1) := by decide +kernel
theorem d141_319 : decode (mB 141) 319 = .ok (.aload_n 0, 1) := by decide +kernel
theorem d141_320 : decode (mB 141) 320 = .ok (.getfield 252, 3) := by decide +kernel
theorem d141_323 : decode (mB 141) 323 = .ok (.ifCond .ne 7, 3) := by decide +kernel
theorem d141_326 : decode (mB 141) 326 = .ok (.aload_n 0, 1) := by decide +kernel
theorem d141_327 : decode (mB 141) 327 = .ok (.invokevirtual 314, 3) := by decide +kernel
theorem d141_330 : decode (mB 141) 330 = .ok (.aload_n 0, 1) := by decide +kernel
theorem d141_331 : decode (mB 141) 331 = .ok (.bipush 59, 2) := by decide +kernel
theorem d141_333 : decode (mB 141) 333 = .ok (.invokevirtual 324, 3) := by decide +kernel
theorem d141_336 : decode (mB 141) 336 = .ok (.goto 116, 3) := by decide +kernel
theorem d141_339 : decode (mB 141) 339 = .ok (.aload_n 0, 1) := by decide +kernel
theorem d141_340 : decode (mB 141) 340 = .ok (.getfield 39, 3) := by decide +kernel
theorem d141_343 : decode (mB 141) 343 = .ok (.iload_n 3, 1) := by decide +kernel
theorem d141_344 : decode (mB 141) 344 = .ok (.aload_n 0, 1) := by decide +kernel
theorem d141_345 : decode (mB 141) 345 = .ok (.invokevirtual 330, 3) := by decide +kernel
theorem d141_348 : decode (mB 141) 348 = .ok (.iastore, 1) := by decide +kernel
theorem d141_349 : decode (mB 141) 349 = .ok (.aload_n 0, 1) := by decide +kernel
theorem d141_350 : decode (mB 141) 350 = .ok (.getfield 252, 3) := by decide +kernel
theorem d141_353 : decode (mB 141) 353 = .ok (.ifCond .ne 9, 3) := by decide +kernel
theorem d141_356 : decode (mB 141) 356 = .ok (.aload_n 0, 1) := by decide +kernel
theorem d141_357 : decode (mB 141) 357 = .ok (.bipush 7, 2) := by decide +kernel
theorem d141_359 : decode (mB 141) 359 = .ok (.invokevirtual 307, 3) := by decide +kernel
theorem d141_362 : decode (mB 141) 362 = .ok (.aload_n 0, 1) := by decide +kernel
theorem d141_363 : decode (mB 141) 363 = .ok (.getfield 252, 3) := by decide +kernel
theorem d141_366 : decode (mB 141) 366 = .ok (.ifCond .ne 8, 3) := by decide +kernel
theorem d141_369 : decode (mB 141) 369 = .ok (.aload_n 0, 1) := by decide +kernel
theorem d141_370 : decode (mB 141) 370 = .ok (.iload_n 3, 1) := by decide +kernel
theorem d141_371 : decode (mB 141) 371 = .ok (.invokevirtual 333, 3) := by decide +kernel
theorem d141_374 : decode (mB 141) 374 = .ok (.aload_n 0, 1) := by decide +kernel
theorem d141_375 : decode (mB 141) 375 = .ok (.bipush 59, 2) := by decide +kernel
theorem d141_377 : decode (mB 141) 377 = .ok (.invokevirtual 324, 3) := by decide +kernel
theorem d141_380 : decode (mB 141) 380 = .ok (.goto 72, 3) := by decide +kernel
theorem d141_383 : decode (mB 141) 383 = .ok (.aload_n 0, 1) := by decide +kernel
theorem d141_384 : decode (mB 141) 384 = .ok (.getfield 39, 3) := by decide +kernel
theorem d141_387 : decode (mB 141) 387 = .ok (.iload_n 3, 1) := by decide +kernel
theorem d141_388 : decode (mB 141) 388 = .ok (.aload_n 0, 1) := by decide +kernel
theorem d141_389 : decode (mB 141) 389 = .ok (.invokevirtual 330, 3) := by decide +kernel
theorem d141_392 : decode (mB 141) 392 = .ok (.iastore, 1) := by decide +kernel
theorem d141_393 : decode (mB 141) 393 = .ok (.aload_n 0, 1) := by decide +kernel
theorem d141_394 : decode (mB 141) 394 = .ok (.getfield 252, 3) := by decide +kernel
theorem d141_397 : decode (mB 141) 397 = .ok (.ifCond .ne 8, 3) := by decide +kernel
theorem d141_400 : decode (mB 141) 400 = .ok (.aload_n 0, 1) := by decide +kernel
theorem d141_401 : decode (mB 141) 401 = .ok (.iconst 5, 1) := by decide +kernel
theorem d141_402 : decode (mB 141) 402 = .ok (.invokevirtual 307, 3) := by decide +kernel
theorem d141_405 : decode (mB 141) 405 = .ok (.aload_n 0, 1) := by decide +kernel
theorem d141_406 : decode (mB 141) 406 = .ok (.getfield 252, 3) := by decide +kernel
theorem d141_409 : decode (mB 141) 409 = .ok (.ifCond .ne 11, 3) := by decide +kernel
theorem d141_412 : decode (mB 141) 412 = .ok (.aload_n 0, 1) := by decide +kernel
theorem d141_413 : decode (mB 141) 413 = .ok (.iload_n 3, 1) := by decide +kernel
theorem d141_414 : decode (mB 141) 414 = .ok (.ldc2_w 336, 3) := by decide +kernel
theorem d141_417 : decode (mB 141) 417 = .ok (.invokevirtual 338, 3) := by decide +kernel
theorem d141_420 : decode (mB 141) 420 = .ok (.aload_n 0, 1) := by decide +kernel
theorem d141_421 : decode (mB 141) 421 = .ok (.bipush 59, 2) := by decide +kernel
theorem d141_423 : decode (mB 141) 423 = .ok (.invokevirtual 324, 3) := by decide +kernel
theorem d141_426 : decode (mB 141) 426 = .ok (.goto 26, 3) := by decide +kernel
theorem d141_429 : decode (mB 141) 429 = .ok (.aload_n 0, 1) := by decide +kernel
theorem d141_430 : decode (mB 141) 430 = .ok (.iload_n 3, 1) := by decide +kernel
theorem d141_431 : decode (mB 141) 431 = .ok (.ldc2_w 342, 3) := by decide +kernel
theorem d141_434 : decode (mB 141) 434 = .ok (.invokevirtual 338, 3) := by decide +kernel
theorem d141_437 : decode (mB 141) 437 = .ok (.aload_n 0, 1) := by decide +kernel
theorem d141_438 : decode (mB 141) 438 = .ok (.iload_n 3, 1) := by decide +kernel
theorem d141_439 : decode (mB 141) 439 = .ok (.iconst 0, 1) := by decide +kernel
theorem d141_440 : decode (mB 141) 440 = .ok (.invokevirtual 310, 3) := by decide +kernel
theorem d141_443 : decode (mB 141) 443 = .ok (.goto 9, 3) := by decide +kernel
theorem d141_446 : decode (mB 141) 446 = .ok (.aload_n 0, 1) := by decide +kernel
theorem d141_447 : decode (mB 141) 447 = .ok (.iload_n 3, 1) := by decide +kernel
theorem d141_448 : decode (mB 141) 448 = .ok (.iconst 0, 1) := by decide +kernel
theorem d141_449 : decode (mB 141) 449 = .ok (.invokevirtual 310, 3) := by decide +kernel
theorem d141_452 : decode (mB 141) 452 = .ok (.return_, 1) := by decide +kernel
theorem d145_0 : decode (mB 145) 0 = .ok (.aload_n 0, 1) := by decide +kernel
theorem d145_1 : decode (mB 145) 1 = .ok (.getfield 252, 3) := by decide +kernel
theorem d145_4 : decode (mB 145) 4 = .ok (.ifCond .ne 13, 3) := by decide +kernel
theorem d145_7 : decode (mB 145) 7 = .ok (.aload_n 0, 1) := by decide +kernel
theorem d145_8 : decode (mB 145) 8 = .ok (.getfield 39, 3) := by decide +kernel
theorem d145_11 : decode (mB 145) 11 = .ok (.iload_n 1, 1) := by decide +kernel
theorem d145_12 : decode (mB 145) 12 = .ok (.aload_n 0, 1) := by decide +kernel
theorem d145_13 : decode (mB 145) 13 = .ok (.invokevirtual 330, 3) := by decide +kernel
theorem d145_16 : decode (mB 145) 16 = .ok (.iastore, 1) := by decide +kernel
theorem d145_17 : decode (mB 145) 17 = .ok (.aload_n 0, 1) := by decide +kernel
theorem d145_18 : decode (mB 145) 18 = .ok (.bipush 59, 2) := by decide +kernel
theorem d145_20 : decode (mB 145) 20 = .ok (.invokevirtual 324, 3) := by decide +kernel
theorem d145_23 : decode (mB 145) 23 = .ok (.return_, 1) := by decide +kernel
theorem d124_0 : decode (mB 124) 0 = .ok (.aload_n 0, 1) := by decide +kernel
theorem d124_1 : decode (mB 124) 1 = .ok (.getfield 170, 3) := by decide +kernel
theorem d124_4 : decode (mB 124) 4 = .ok (.bipush 20, 2) := by decide +kernel
theorem d124_6 : decode (mB 124) 6 = .ok (.iadd, 1) := by decide +kernel
theorem d124_7 : decode (mB 124) 7 = .ok (.sipush 800, 3) := by decide +kernel
theorem d124_10 : decode (mB 124) 10 = .ok (.if_icmp .le 5, 3) := by decide +kernel
theorem d124_13 : decode (mB 124) 13 = .ok (.iconst (-1), 1) := by decide +kernel
theorem d124_14 : decode (mB 124) 14 = .ok (.ireturn, 1) := by decide +kernel
theorem d124_15 : decode (mB 124) 15 = .ok (.iconst 0, 1) := by decide +kernel
theorem d124_16 : decode (mB 124) 16 = .ok (.istore 6, 2) := by decide +kernel
theorem d124_18 : decode (mB 124) 18 = .ok (.iload 6, 2) := by decide +kernel
theorem d124_20 : decode (mB 124) 20 = .ok (.bipush 20, 2) := by decide +kernel
theorem d124_22 : decode (mB 124) 22 = .ok (.if_icmp .ge 92, 3) := by decide +kernel
theorem d124_25 : decode (mB 124) 25 = .ok (.iload 6, 2) := by decide +kernel
theorem d124_27 : decode (mB 124) 27 = .ok (.iconst 4, 1) := by decide +kernel
theorem d124_28 : decode (mB 124) 28 = .ok (.idiv, 1) := by decide +kernel
theorem d124_29 : decode (mB 124) 29 = .ok (.istore 7, 2) := by decide +kernel
theorem d124_31 : decode (mB 124) 31 = .ok (.iload 7, 2) := by decide +kernel
theorem d124_33 : decode (mB 124) 33 = .ok (.ifCond .ne 7, 3) := by decide +kernel
theorem d124_36 : decode (mB 124) 36 = .ok (.iload_n 1, 1) := by decide +kernel
theorem d124_37 : decode (mB 124) 37 = .ok (.goto 36, 3) := by decide +kernel
theorem d124_40 : decode (mB 124) 40 = .ok (.iload 7, 2) := by decide +kernel
theorem d124_42 : decode (mB 124) 42 = .ok (.iconst 1, 1) := by decide +kernel
theorem d124_43 : decode (mB 124) 43 = .ok (.if_icmp .ne 7, 3) := by decide +kernel
theorem d124_46 : decode (mB 124) 46 = .ok (.iload_n 2, 1) := by decide +kernel
theorem d124_47 : decode (mB 124) 47 = .ok (.goto 26, 3) := by decide +kernel
theorem d124_50 : decode (mB 124) 50 = .ok (.iload 7, 2) := by decide +kernel
theorem d124_52 : decode (mB 124) 52 = .ok (.iconst 2, 1) := by decide +kernel
theorem d124_53 : decode (mB 124) 53 = .ok (.if_icmp .ne 7, 3) := by decide +kernel
theorem d124_56 : decode (mB 124) 56 = .ok (.iload_n 3, 1) := by decide +kernel
theorem d124_57 : decode (mB 124) 57 = .ok (.goto 16, 3) := by decide +kernel
theorem d124_60 : decode (mB 124) 60 = .ok (.iload 7, 2) := by decide +kernel
theorem d124_62 : decode (mB 124) 62 = .ok (.iconst 3, 1) := by decide +kernel
theorem d124_63 : decode (mB 124) 63 = .ok (.if_icmp .ne 8, 3) := by decide +kernel
theorem d124_66 : decode (mB 124) 66 = .ok (.iload 4, 2) := by decide +kernel
theorem d124_68 : decode (mB 124) 68 = .ok (.goto 5, 3) := by decide +kernel
theorem d124_71 : decode (mB 124) 71 = .ok (.iload 5, 2) := by decide +kernel
theorem d124_73 : decode (mB 124) 73 = .ok (.istore 8, 2) := by decide +kernel
theorem d124_75 : decode (mB 124) 75 = .ok (.aload_n 0, 1) := by decide +kernel
theorem d124_76 : decode (mB 124) 76 = .ok (.getfield 7, 3) := by decide +kernel
theorem d124_79 : decode (mB 124) 79 = .ok (.aload_n 0, 1) := by decide +kernel
theorem d124_80 : decode (mB 124) 80 = .ok (.getfield 170, 3) := by decide +kernel
theorem d124_83 : decode (mB 124) 83 = .ok (.iload 8, 2) := by decide +kernel
theorem d124_85 : decode (mB 124) 85 = .ok (.bipush 24, 2) := by decide +kernel
theorem d124_87 : decode (mB 124) 87 = .ok (.bipush 8, 2) := by decide +kernel
theorem d124_89 : decode (mB 124) 89 = .ok (.iload 6, 2) := by decide +kernel
theorem d124_91 : decode (mB 124) 91 = .ok (.iconst 4, 1) := by decide +kernel
theorem d124_92 : decode (mB 124) 92 = .ok (.irem, 1) := by decide +kernel
theorem d124_93 : decode (mB 124) 93 = .ok (.imul, 1) := by decide +kernel
theorem d124_94 : decode (mB 124) 94 = .ok (.isub, 1) := by decide +kernel
theorem d124_95 : decode (mB 124) 95 = .ok (.ishr, 1) := by decide +kernel
theorem d124_96 : decode (mB 124) 96 = .ok (.i2b, 1) := by decide +kernel
theorem d124_97 : decode (mB 124) 97 = .ok (.bastore, 1) := by decide +kernel
theorem d124_98 : decode (mB 124) 98 = .ok (.aload_n 0, 1) := by decide +kernel
theorem d124_99 : decode (mB 124) 99 = .ok (.dup, 1) := by decide +kernel
theorem d124_100 : decode (mB 124) 100 = .ok (.getfield 170, 3) := by decide +kernel
theorem d124_103 : decode (mB 124) 103 = .ok (.iconst 1, 1) := by decide +kernel
theorem d124_104 : decode (mB 124) 104 = .ok (.iadd, 1) := by decide +kernel
theorem d124_105 : decode (mB 124) 105 = .ok (.putfield 170, 3) := by decide +kernel
theorem d124_108 : decode (mB 124) 108 = .ok (.iinc 6 1, 3) := by decide +kernel
theorem d124_111 : decode (mB 124) 111 = .ok (.goto (-93), 3) := by decide +kernel
theorem d124_114 : decode (mB 124) 114 = .ok (.aload_n 0, 1) := by decide +kernel
theorem d124_115 : decode (mB 124) 115 = .ok (.getfield 170, 3) := by decide +kernel
theorem d124_118 : decode (mB 124) 118 = .ok (.ireturn, 1) := by decide +kernel
theorem d125_0 : decode (mB 125) 0 = .ok (.iload_n 1, 1) := by decide +kernel
theorem d125_1 : decode (mB 125) 1 = .ok (.ifCond .lt 18, 3) := by decide +kernel
theorem d125_4 : decode (mB 125) 4 = .ok (.iload_n 1, 1) := by decide +kernel
theorem d125_5 : decode (mB 125) 5 = .ok (.bipush 20, 2) := by decide +kernel
theorem d125_7 : decode (mB 125) 7 = .ok (.if_icmp .gt 12, 3) := by decide +kernel
theorem d125_10 : decode (mB 125) 10 = .ok (.aload_n 0, 1) := by decide +kernel
theorem d125_11 : decode (mB 125) 11 = .ok (.getfield 170, 3) := by decide +kernel
theorem d125_14 : decode (mB 125) 14 = .ok (.bipush 20, 2) := by decide +kernel
theorem d125_16 : decode (mB 125) 16 = .ok (.if_icmp .ge 5, 3) := by decide +kernel
theorem d125_19 : decode (mB 125) 19 = .ok (.iconst (-1), 1) := by decide +kernel
theorem d125_20 : decode (mB 125) 20 = .ok (.ireturn, 1) := by decide +kernel
theorem d125_21 : decode (mB 125) 21 = .ok (.aload_n 0, 1) := by decide +kernel
theorem d125_22 : decode (mB 125) 22 = .ok (.dup, 1) := by decide +kernel
theorem d125_23 : decode (mB 125) 23 = .ok (.getfield 170, 3) := by decide +kernel
theorem d125_26 : decode (mB 125) 26 = .ok (.bipush 20, 2) := by decide +kernel
theorem d125_28 : decode (mB 125) 28 = .ok (.iload_n 1, 1) := by decide +kernel
theorem d125_29 : decode (mB 125) 29 = .ok (.isub, 1) := by decide +kernel
theorem d125_30 : decode (mB 125) 30 = .ok (.isub, 1) := by decide +kernel
theorem d125_31 : decode (mB 125) 31 = .ok (.putfield 170, 3) := by decide +kernel
theorem d125_34 : decode (mB 125) 34 = .ok (.aload_n 0, 1) := by decide +kernel
theorem d125_35 : decode (mB 125) 35 = .ok (.getfield 170, 3) := by decide +kernel
theorem d125_38 : decode (mB 125) 38 = .ok (.ireturn, 1) := by decide +kernel
theorem d126_0 : decode (mB 126) 0 = .ok (.aload_n 0, 1) := by decide +kernel
theorem d126_1 : decode (mB 126) 1 = .ok (.getfield 344, 3) := by decide +kernel
theorem d126_4 : decode (mB 126) 4 = .ok (.bipush 12, 2) := by decide +kernel
theorem d126_6 : decode (mB 126) 6 = .ok (.if_icmp .ne 5, 3) := by decide +kernel
theorem d126_9 : decode (mB 126) 9 = .ok (.iconst (-1), 1) := by decide +kernel
theorem d126_10 : decode (mB 126) 10 = .ok (.ireturn, 1) := by decide +kernel
theorem d126_11 : decode (mB 126) 11 = .ok (.aload_n 0, 1) := by decide +kernel
theorem d126_12 : decode (mB 126) 12 = .ok (.iconst (-1), 1) := by decide +kernel
theorem d126_13 : decode (mB 126) 13 = .ok (.putfield 13, 3) := by decide +kernel
theorem d126_16 : decode (mB 126) 16 = .ok (.aload_n 0, 1) := by decide +kernel
theorem d126_17 : decode (mB 126) 17 = .ok (.aload_n 0, 1) := by decide +kernel
theorem d126_18 : decode (mB 126) 18 = .ok (.getfield 344, 3) := by decide +kernel
theorem d126_21 : decode (mB 126) 21 = .ok (.putfield 265, 3) := by decide +kernel
theorem d126_24 : decode (mB 126) 24 = .ok (.aload_n 0, 1) := by decide +kernel
theorem d126_25 : decode (mB 126) 25 = .ok (.getfield 17, 3) := by decide +kernel
theorem d126_28 : decode (mB 126) 28 = .ok (.aload_n 0, 1) := by decide +kernel
theorem d126_29 : decode (mB 126) 29 = .ok (.getfield 265, 3) := by decide +kernel
theorem d126_32 : decode (mB 126) 32 = .ok (.iconst 0, 1) := by decide +kernel
theorem d126_33 : decode (mB 126) 33 = .ok (.iastore, 1) := by decide +kernel
theorem d126_34 : decode (mB 126) 34 = .ok (.aload_n 0, 1) := by decide +kernel
theorem d126_35 : decode (mB 126) 35 = .ok (.getfield 21, 3) := by decide +kernel
theorem d126_38 : decode (mB 126) 38 = .ok (.aload_n 0, 1) := by decide +kernel
theorem d126_39 : decode (mB 126) 39 = .ok (.getfield 265, 3) := by decide +kernel
theorem d126_42 : decode (mB 126) 42 = .ok (.iconst 0, 1) := by decide +kernel
theorem d126_43 : decode (mB 126) 43 = .ok (.iastore, 1) := by decide +kernel
theorem d126_44 : decode (mB 126) 44 = .ok (.aload_n 0, 1) := by decide +kernel
theorem d126_45 : decode (mB 126) 45 = .ok (.getfield 24, 3) := by decide +kernel
theorem d126_48 : decode (mB 126) 48 = .ok (.aload_n 0, 1) := by decide +kernel
theorem d126_49 : decode (mB 126) 49 = .ok (.getfield 265, 3) := by decide +kernel
theorem d126_52 : decode (mB 126) 52 = .ok (.iconst 0, 1) := by decide +kernel
theorem d126_53 : decode (mB 126) 53 = .ok (.iastore, 1) := by decide +kernel
theorem d126_54 : decode (mB 126) 54 = .ok (.aload_n 0, 1) := by decide +kernel
theorem d126_55 : decode (mB 126) 55 = .ok (.getfield 30, 3) := by decide +kernel
theorem d126_58 : decode (mB 126) 58 = .ok (.aload_n 0, 1) := by decide +kernel
theorem d126_59 : decode (mB 126) 59 = .ok (.getfield 265, 3) := by decide +kernel
theorem d126_62 : decode (mB 126) 62 = .ok (.iconst 0, 1) := by decide +kernel
theorem d126_63 : decode (mB 126) 63 = .ok (.iastore, 1) := by decide +kernel
theorem d126_64 : decode (mB 126) 64 = .ok (.aload_n 0, 1) := by decide +kernel
theorem d126_65 : decode (mB 126) 65 = .ok (.iconst 0, 1) := by decide +kernel
theorem d126_66 : decode (mB 126) 66 = .ok (.putfield 211, 3) := by decide +kernel
theorem d126_69 : decode (mB 126) 69 = .ok (.aload_n 0, 1) := by decide +kernel
theorem d126_70 : decode (mB 126) 70 = .ok (.iconst 0, 1) := by decide +kernel
theorem d126_71 : decode (mB 126) 71 = .ok (.putfield 252, 3) := by decide +kernel
theorem d126_74 : decode (mB 126) 74 = .ok (.aload_n 0, 1) := by decide +kernel
theorem d126_75 : decode (mB 126) 75 = .ok (.invokevirtual 347, 3) := by decide +kernel
theorem d126_78 : decode (mB 126) 78 = .ok (.aload_n 0, 1) := by decide +kernel
theorem d126_79 : decode (mB 126) 79 = .ok (.iconst 0, 1) := by decide +kernel
theorem d126_80 : decode (mB 126) 80 = .ok (.putfield 170, 3) := by decide +kernel
theorem d126_83 : decode (mB 126) 83 = .ok (.aload_n 0, 1) := by decide +kernel
theorem d126_84 : decode (mB 126) 84 = .ok (.getfield 252, 3) := by decide +kernel
theorem d126_87 : decode (mB 126) 87 = .ok (.ifCond .eq 6, 3) := by decide +kernel
theorem d126_90 : decode (mB 126) 90 = .ok (.bipush (-2), 2) := by decide +kernel
theorem d126_92 : decode (mB 126) 92 = .ok (.ireturn, 1) := by decide +kernel
theorem d126_93 : decode (mB 126) 93 = .ok (.aload_n 0, 1) := by decide +kernel
theorem d126_94 : decode (mB 126) 94 = .ok (.dup, 1) := by decide +kernel
theorem d126_95 : decode (mB 126) 95 = .ok (.getfield 344, 3) := by decide +kernel
theorem d126_98 : decode (mB 126) 98 = .ok (.iconst 1, 1) := by decide +kernel
theorem d126_99 : decode (mB 126) 99 = .ok (.iadd, 1) := by decide +kernel
theorem d126_100 : decode (mB 126) 100 = .ok (.putfield 344, 3) := by decide +kernel
theorem d126_103 : decode (mB 126) 103 = .ok (.aload_n 0, 1) := by decide +kernel
theorem d126_104 : decode (mB 126) 104 = .ok (.getfield 344, 3) := by decide +kernel
theorem d126_107 : decode (mB 126) 107 = .ok (.iconst 1, 1) := by decide +kernel
theorem d126_108 : decode (mB 126) 108 = .ok (.isub, 1) := by decide +kernel
theorem d126_109 : decode (mB 126) 109 = .ok (.ireturn, 1) := by decide +kernel
theorem d154_0 : decode (mB 154) 0 = .ok (.aload_n 0, 1) := by decide +kernel
theorem d154_1 : decode (mB 154) 1 = .ok (.getfield 13, 3) := by decide +kernel
theorem d154_4 : decode (mB 154) 4 = .ok (.ireturn, 1) := by decide +kernel
theorem d155_0 : decode (mB 155) 0 = .ok (.iload_n 1, 1) := by decide +kernel
theorem d155_1 : decode (mB 155) 1 = .ok (.ifCond .lt 11, 3) := by decide +kernel
theorem d155_4 : decode (mB 155) 4 = .ok (.iload_n 1, 1) := by decide +kernel
theorem d155_5 : decode (mB 155) 5 = .ok (.aload_n 0, 1) := by decide +kernel
theorem d155_6 : decode (mB 155) 6 = .ok (.getfield 344, 3) := by decide +kernel
theorem d155_9 : decode (mB 155) 9 = .ok (.if_icmp .lt 5, 3) := by decide +kernel
theorem d155_12 : decode (mB 155) 12 = .ok (.iconst (-1), 1) := by decide +kernel
theorem d155_13 : decode (mB 155) 13 = .ok (.ireturn, 1) := by decide +kernel
theorem d155_14 : decode (mB 155) 14 = .ok (.iload_n 2, 1) := by decide +kernel
theorem d155_15 : decode (mB 155) 15 = .ok (.ifCond .ne 12, 3) := by decide +kernel
theorem d155_18 : decode (mB 155) 18 = .ok (.aload_n 0, 1) := by decide +kernel
theorem d155_19 : decode (mB 155) 19 = .ok (.getfield 17, 3) := by decide +kernel
theorem d155_22 : decode (mB 155) 22 = .ok (.iload_n 1, 1) := by decide +kernel
theorem d155_23 : decode (mB 155) 23 = .ok (.iaload, 1) := by decide +kernel
theorem d155_24 : decode (mB 155) 24 = .ok (.goto 32, 3) := by decide +kernel
theorem d155_27 : decode (mB 155) 27 = .ok (.iload_n 2, 1) := by decide +kernel
theorem d155_28 : decode (mB 155) 28 = .ok (.iconst 1, 1) := by decide +kernel
theorem d155_29 : decode (mB 155) 29 = .ok (.if_icmp .ne 12, 3) := by decide +kernel
theorem d155_32 : decode (mB 155) 32 = .ok (.aload_n 0, 1) := by decide +kernel
theorem d155_33 : decode (mB 155) 33 = .ok (.getfield 21, 3) := by decide +kernel
theorem d155_36 : decode (mB 155) 36 = .ok (.iload_n 1, 1) := by decide +kernel
theorem d155_37 : decode (mB 155) 37 = .ok (.iaload, 1) := by decide +kernel
theorem d155_38 : decode (mB 155) 38 = .ok (.goto 18, 3) := by decide +kernel
theorem d155_41 : decode (mB 155) 41 = .ok (.iload_n 2, 1) := by decide +kernel
theorem d155_42 : decode (mB 155) 42 = .ok (.iconst 2, 1) := by decide +kernel
theorem d155_43 : decode (mB 155) 43 = .ok (.if_icmp .ne 12, 3) := by decide +kernel
theorem d155_46 : decode (mB 155) 46 = .ok (.aload_n 0, 1) := by decide +kernel
theorem d155_47 : decode (mB 155) 47 = .ok (.getfield 24, 3) := by decide +kernel
theorem d155_50 : decode (mB 155) 50 = .ok (.iload_n 1, 1) := by decide +kernel
theorem d155_51 : decode (mB 155) 51 = .ok (.iaload, 1) := by decide +kernel
theorem d155_52 : decode (mB 155) 52 = .ok (.goto 4, 3) := by decide +kernel
theorem d155_55 : decode (mB 155) 55 = .ok (.iconst (-1), 1) := by decide +kernel
theorem d155_56 : decode (mB 155) 56 = .ok (.ireturn, 1) := by decide +kernel
theorem d166_0 : decode (mB 166) 0 = .ok (.aload_n 0, 1) := by decide +kernel
theorem d166_1 : decode (mB 166) 1 = .ok (.getfield 350, 3) := by decide +kernel
theorem d166_4 : decode (mB 166) 4 = .ok (.sipush 400, 3) := by decide +kernel
theorem d166_7 : decode (mB 166) 7 = .ok (.if_icmp .ge 62, 3) := by decide +kernel
theorem d166_10 : decode (mB 166) 10 = .ok (.iload_n 2, 1) := by decide +kernel
theorem d166_11 : decode (mB 166) 11 = .ok (.bipush 6, 2) := by decide +kernel
theorem d166_13 : decode (mB 166) 13 = .ok (.if_icmp .eq 56, 3) := by decide +kernel
theorem d166_16 : decode (mB 166) 16 = .ok (.aload_n 0, 1) := by decide +kernel
theorem d166_17 : decode (mB 166) 17 = .ok (.getfield 155, 3) := by decide +kernel
theorem d166_20 : decode (mB 166) 20 = .ok (.aload_n 0, 1) := by decide +kernel
theorem d166_21 : decode (mB 166) 21 = .ok (.getfield 350, 3) := by decide +kernel
theorem d166_24 : decode (mB 166) 24 = .ok (.iload_n 1, 1) := by decide +kernel
theorem d166_25 : decode (mB 166) 25 = .ok (.iastore, 1) := by decide +kernel
theorem d166_26 : decode (mB 166) 26 = .ok (.aload_n 0, 1) := by decide +kernel
theorem d166_27 : decode (mB 166) 27 = .ok (.getfield 158, 3) := by decide +kernel
theorem d166_30 : decode (mB 166) 30 = .ok (.aload_n 0, 1) := by decide +kernel
theorem d166_31 : decode (mB 166) 31 = .ok (.getfield 350, 3) := by decide +kernel
theorem d166_34 : decode (mB 166) 34 = .ok (.iload_n 2, 1) := by decide +kernel
theorem d166_35 : decode (mB 166) 35 = .ok (.iastore, 1) := by decide +kernel
theorem d166_36 : decode (mB 166) 36 = .ok (.aload_n 0, 1) := by decide +kernel
theorem d166_37 : decode (mB 166) 37 = .ok (.getfield 161, 3) := by decide +kernel
theorem d166_40 : decode (mB 166) 40 = .ok (.aload_n 0, 1) := by decide +kernel
theorem d166_41 : decode (mB 166) 41 = .ok (.getfield 350, 3) := by decide +kernel
theorem d166_44 : decode (mB 166) 44 = .ok (.aload_n 0, 1) := by decide +kernel
theorem d166_45 : decode (mB 166) 45 = .ok (.getfield 353, 3) := by decide +kernel
theorem d166_48 : decode (mB 166) 48 = .ok (.iastore, 1) := by decide +kernel
theorem d166_49 : decode (mB 166) 49 = .ok (.aload_n 0, 1) := by decide +kernel
theorem d166_50 : decode (mB 166) 50 = .ok (.getfield 164, 3) := by decide +kernel
theorem d166_53 : decode (mB 166) 53 = .ok (.aload_n 0, 1) := by decide +kernel
theorem d166_54 : decode (mB 166) 54 = .ok (.getfield 350, 3) := by decide +kernel
theorem d166_57 : decode (mB 166) 57 = .ok (.lload_n 3, 1) := by decide +kernel
theorem d166_58 : decode (mB 166) 58 = .ok (.lastore, 1) := by decide +kernel
theorem d166_59 : decode (mB 166) 59 = .ok (.aload_n 0, 1) := by decide +kernel
theorem d166_60 : decode (mB 166) 60 = .ok (.dup, 1) := by decide +kernel
theorem d166_61 : decode (mB 166) 61 = .ok (.getfield 350, 3) := by decide +kernel
theorem d166_64 : decode (mB 166) 64 = .ok (.iconst 1, 1) := by decide +kernel
theorem d166_65 : decode (mB 166) 65 = .ok (.iadd, 1) := by decide +kernel
theorem d166_66 : decode (mB 166) 66 = .ok (.putfield 350, 3) := by decide +kernel
theorem d166_69 : decode (mB 166) 69 = .ok (.return_, 1) := by decide +kernel
theorem d173_0 : decode (mB 173) 0 = .ok (.iconst 0, 1) := by decide +kernel
theorem d173_1 : decode (mB 173) 1 = .ok (.istore_n 3, 1) := by decide +kernel
theorem d173_2 : decode (mB 173) 2 = .ok (.iload_n 2, 1) := by decide +kernel
theorem d173_3 : decode (mB 173) 3 = .ok (.istore 4, 2) := by decide +kernel
theorem d173_5 : decode (mB 173) 5 = .ok (.aload_n 0, 1) := by decide +kernel
theorem d173_6 : decode (mB 173) 6 = .ok (.getfield 58, 3) := by decide +kernel
theorem d173_9 : decode (mB 173) 9 = .ok (.iload 4, 2) := by decide +kernel
theorem d173_11 : decode (mB 173) 11 = .ok (.iaload, 1) := by decide +kernel
theorem d173_12 : decode (mB 173) 12 = .ok (.iconst 4, 1) := by decide +kernel
theorem d173_13 : decode (mB 173) 13 = .ok (.if_icmp .eq 240, 3) := by decide +kernel
theorem d173_16 : decode (mB 173) 16 = .ok (.aload_n 0, 1) := by decide +kernel
theorem d173_17 : decode (mB 173) 17 = .ok (.getfield 58, 3) := by decide +kernel
theorem d173_20 : decode (mB 173) 20 = .ok (.iload 4, 2) := by decide +kernel
theorem d173_22 : decode (mB 173) 22 = .ok (.iaload, 1) := by decide +kernel
theorem d173_23 : decode (mB 173) 23 = .ok (.istore 5, 2) := by decide +kernel
theorem d173_25 : decode (mB 173) 25 = .ok (.iload 5, 2) := by decide +kernel
theorem d173_27 : decode (mB 173) 27 = .ok (.iconst 1, 1) := by decide +kernel
theorem d173_28 : decode (mB 173) 28 = .ok (.if_icmp .ne 22, 3) := by decide +kernel
theorem d173_31 : decode (mB 173) 31 = .ok (.aload_n 0, 1) := by decide +kernel
theorem d173_32 : decode (mB 173) 32 = .ok (.getfield 167, 3) := by decide +kernel
theorem d173_35 : decode (mB 173) 35 = .ok (.iload_n 3, 1) := by decide +kernel
theorem d173_36 : decode (mB 173) 36 = .ok (.aload_n 0, 1) := by decide +kernel
theorem d173_37 : decode (mB 173) 37 = .ok (.getfield 64, 3) := by decide +kernel
theorem d173_40 : decode (mB 173) 40 = .ok (.iload 4, 2) := by decide +kernel
theorem d173_42 : decode (mB 173) 42 = .ok (.laload, 1) := by decide +kernel
theorem d173_43 : decode (mB 173) 43 = .ok (.lastore, 1) := by decide +kernel
theorem d173_44 : decode (mB 173) 44 = .ok (.iinc 3 1, 3) := by decide +kernel
theorem d173_47 : decode (mB 173) 47 = .ok (.goto 200, 3) := by decide +kernel
theorem d173_50 : decode (mB 173) 50 = .ok (.iload 5, 2) := by decide +kernel
theorem d173_52 : decode (mB 173) 52 = .ok (.iconst 2, 1) := by decide +kernel
theorem d173_53 : decode (mB 173) 53 = .ok (.if_icmp .ne 35, 3) := by decide +kernel
theorem d173_56 : decode (mB 173) 56 = .ok (.aload_n 0, 1) := by decide +kernel
theorem d173_57 : decode (mB 173) 57 = .ok (.getfield 167, 3) := by decide +kernel
theorem d173_60 : decode (mB 173) 60 = .ok (.iload_n 3, 1) := by decide +kernel
theorem d173_61 : decode (mB 173) 61 = .ok (.aload_n 0, 1) := by decide +kernel
theorem d173_62 : decode (mB 173) 62 = .ok (.getfield 104, 3) := by decide +kernel
theorem d173_65 : decode (mB 173) 65 = .ok (.bipush 10, 2) := by decide +kernel
theorem d173_67 : decode (mB 173) 67 = .ok (.iload_n 1, 1) := by decide +kernel
theorem d173_68 : decode (mB 173) 68 = .ok (.imul, 1) := by decide +kernel
theorem d173_69 : decode (mB 173) 69 = .ok (.aload_n 0, 1) := by decide +kernel
theorem d173_70 : decode (mB 173) 70 = .ok (.getfield 61, 3) := by decide +kernel
theorem d173_73 : decode (mB 173) 73 = .ok (.iload 4, 2) := by decide +kernel
theorem d173_75 : decode (mB 173) 75 = .ok (.iaload, 1) := by decide +kernel
theorem d173_76 : decode (mB 173) 76 = .ok (.iadd, 1) := by decide +kernel
theorem d173_77 : decode (mB 173) 77 = .ok (.bipush 16, 2) := by decide +kernel
theorem d173_79 : decode (mB 173) 79 = .ok (.isub, 1) := by decide +kernel
theorem d173_80 : decode (mB 173) 80 = .ok (.laload, 1) := by decide +kernel
theorem d173_81 : decode (mB 173) 81 = .ok (.lastore, 1) := by decide +kernel
theorem d173_82 : decode (mB 173) 82 = .ok (.iinc 3 1, 3) := by decide +kernel
theorem d173_85 : decode (mB 173) 85 = .ok (.goto 162, 3) := by decide +kernel
theorem d173_88 : decode (mB 173) 88 = .ok (.iload 5, 2) := by decide +kernel
theorem d173_90 : decode (mB 173) 90 = .ok (.iconst 3, 1) := by decide +kernel
theorem d173_91 : decode (mB 173) 91 = .ok (.if_icmp .ne 23, 3) := by decide +kernel
theorem d173_94 : decode (mB 173) 94 = .ok (.aload_n 0, 1) := by decide +kernel
theorem d173_95 : decode (mB 173) 95 = .ok (.getfield 167, 3) := by decide +kernel
theorem d173_98 : decode (mB 173) 98 = .ok (.iload_n 3, 1) := by decide +kernel
theorem d173_99 : decode (mB 173) 99 = .ok (.iconst 1, 1) := by decide +kernel
theorem d173_100 : decode (mB 173) 100 = .ok (.isub, 1) := by decide +kernel
theorem d173_101 : decode (mB 173) 101 = .ok (.aload_n 0, 1) := by decide +kernel
theorem d173_102 : decode (mB 173) 102 = .ok (.getfield 167, 3) := by decide +kernel
theorem d173_105 : decode (mB 173) 105 = .ok (.iload_n 3, 1) := by decide +kernel
theorem d173_106 : decode (mB 173) 106 = .ok (.iconst 1, 1) := by decide +kernel
theorem d173_107 : decode (mB 173) 107 = .ok (.isub, 1) := by decide +kernel
theorem d173_108 : decode (mB 173) 108 = .ok (.laload, 1) := by decide +kernel
theorem d173_109 : decode (mB 173) 109 = .ok (.lneg, 1) := by decide +kernel
theorem d173_110 : decode (mB 173) 110 = .ok (.lastore, 1) := by decide +kernel
theorem d173_111 : decode (mB 173) 111 = .ok (.goto 136, 3) := by decide +kernel
theorem d173_114 : decode (mB 173) 114 = .ok (.iinc 3 (-1), 3) := by decide +kernel
theorem d173_117 : decode (mB 173) 117 = .ok (.aload_n 0, 1) := by decide +kernel
theorem d173_118 : decode (mB 173) 118 = .ok (.getfield 167, 3) := by decide +kernel
theorem d173_121 : decode (mB 173) 121 = .ok (.iload_n 3, 1) := by decide +kernel
theorem d173_122 : decode (mB 173) 122 = .ok (.iconst 1, 1) := by decide +kernel
theorem d173_123 : decode (mB 173) 123 = .ok (.isub, 1) := by decide +kernel
theorem d173_124 : decode (mB 173) 124 = .ok (.laload, 1) := by decide +kernel
theorem d173_125 : decode (mB 173) 125 = .ok (.lstore 6, 2) := by decide +kernel
theorem d173_127 : decode (mB 173) 127 = .ok (.aload_n 0, 1) := by decide +kernel
theorem d173_128 : decode (mB 173) 128 = .ok (.getfield 167, 3) := by decide +kernel
theorem d173_131 : decode (mB 173) 131 = .ok (.iload_n 3, 1) := by decide +kernel
theorem d173_132 : decode (mB 173) 132 = .ok (.laload, 1) := by decide +kernel
theorem d173_133 : decode (mB 173) 133 = .ok (.lstore 8, 2) := by decide +kernel
theorem d173_135 : decode (mB 173) 135 = .ok (.aload_n 0, 1) := by decide +kernel
theorem d173_136 : decode (mB 173) 136 = .ok (.getfield 167, 3) := by decide +kernel
theorem d173_139 : decode (mB 173) 139 = .ok (.iload_n 3, 1) := by decide +kernel
theorem d173_140 : decode (mB 173) 140 = .ok (.iconst 1, 1) := by decide +kernel
theorem d173_141 : decode (mB 173) 141 = .ok (.isub, 1) := by decide +kernel
theorem d173_142 : decode (mB 173) 142 = .ok (.iload 5, 2) := by decide +kernel
theorem d173_144 : decode (mB 173) 144 = .ok (.bipush 60, 2) := by decide +kernel
theorem d173_146 : decode (mB 173) 146 = .ok (.if_icmp .ne 19, 3) := by decide +kernel
theorem d173_149 : decode (mB 173) 149 = .ok (.lload 6, 2) := by decide +kernel
theorem d173_151 : decode (mB 173) 151 = .ok (.lload 8, 2) := by decide +kernel
theorem d173_153 : decode (mB 173) 153 = .ok (.lcmp, 1) := by decide +kernel
theorem d173_154 : decode (mB 173) 154 = .ok (.ifCond .ge 7, 3) := by decide +kernel
theorem d173_157 : decode (mB 173) 157 = .ok (.lconst 1, 1) := by decide +kernel
theorem d173_158 : decode (mB 173) 158 = .ok (.goto 88, 3) := by decide +kernel
theorem d173_161 : decode (mB 173) 161 = .ok (.lconst 0, 1) := by decide +kernel
theorem d173_162 : decode (mB 173) 162 = .ok (.goto 84, 3) := by decide +kernel
theorem d173_165 : decode (mB 173) 165 = .ok (.iload 5, 2) := by decide +kernel
theorem d173_167 : decode (mB 173) 167 = .ok (.bipush 61, 2) := by decide +kernel
theorem d173_169 : decode (mB 173) 169 = .ok (.if_icmp .ne 19, 3) := by decide +kernel
theorem d173_172 : decode (mB 173) 172 = .ok (.lload 6, 2) := by decide +kernel
theorem d173_174 : decode (mB 173) 174 = .ok (.lload 8, 2) := by decide +kernel
theorem d173_176 : decode (mB 173) 176 = .ok (.lcmp, 1) := by decide +kernel
theorem d173_177 : decode (mB 173) 177 = .ok (.ifCond .ne 7, 3) := by decide +kernel
theorem d173_180 : decode (mB 173) 180 = .ok (.lconst 1, 1) := by decide +kernel
theorem d173_181 : decode (mB 173) 181 = .ok (.goto 65, 3) := by decide +kernel
theorem d173_184 : decode (mB 173) 184 = .ok (.lconst 0, 1) := by decide +kernel
theorem d173_185 : decode (mB 173) 185 = .ok (.goto 61, 3) := by decide +kernel
theorem d173_188 : decode (mB 173) 188 = .ok (.iload 5, 2) := by decide +kernel
theorem d173_190 : decode (mB 173) 190 = .ok (.bipush 35, 2) := by decide +kernel
theorem d173_192 : decode (mB 173) 192 = .ok (.if_icmp .ne 19, 3) := by decide +kernel
theorem d173_195 : decode (mB 173) 195 = .ok (.lload 6, 2) := by decide +kernel
theorem d173_197 : decode (mB 173) 197 = .ok (.lload 8, 2) := by decide +kernel
theorem d173_199 : decode (mB 173) 199 = .ok (.lcmp, 1) := by decide +kernel
theorem d173_200 : decode (mB 173) 200 = .ok (.ifCond .eq 7, 3) := by decide +kernel
theorem d173_203 : decode (mB 173) 203 = .ok (.lconst 1, 1) := by decide +kernel
theorem d173_204 : decode (mB 173) 204 = .ok (.goto 42, 3) := by decide +kernel
theorem d173_207 : decode (mB 173) 207 = .ok (.lconst 0, 1) := by decide +kernel
theorem d173_208 : decode (mB 173) 208 = .ok (.goto 38, 3) := by decide +kernel
theorem d173_211 : decode (mB 173) 211 = .ok (.iload 5, 2) := by decide +kernel
theorem d173_213 : decode (mB 173) 213 = .ok (.bipush 43, 2) := by decide +kernel
theorem d173_215 : decode (mB 173) 215 = .ok (.if_icmp .ne 11, 3) := by decide +kernel
theorem d173_218 : decode (mB 173) 218 = .ok (.lload 6, 2) := by decide +kernel
theorem d173_220 : decode (mB 173) 220 = .ok (.lload 8, 2) := by decide +kernel
theorem d173_222 : decode (mB 173) 222 = .ok (.ladd, 1) := by decide +kernel
theorem d173_223 : decode (mB 173) 223 = .ok (.goto 23, 3) := by decide +kernel
theorem d173_226 : decode (mB 173) 226 = .ok (.iload 5, 2) := by decide +kernel
theorem d173_228 : decode (mB 173) 228 = .ok (.bipush 45, 2) := by decide +kernel
theorem d173_230 : decode (mB 173) 230 = .ok (.if_icmp .ne 11, 3) := by decide +kernel
theorem d173_233 : decode (mB 173) 233 = .ok (.lload 6, 2) := by decide +kernel
theorem d173_235 : decode (mB 173) 235 = .ok (.lload 8, 2) := by decide +kernel
theorem d173_237 : decode (mB 173) 237 = .ok (.lsub, 1) := by decide +kernel
theorem d173_238 : decode (mB 173) 238 = .ok (.goto 8, 3) := by decide +kernel
theorem d173_241 : decode (mB 173) 241 = .ok (.lload 6, 2) := by decide +kernel
theorem d173_243 : decode (mB 173) 243 = .ok (.lload 8, 2) := by decide +kernel
theorem d173_245 : decode (mB 173) 245 = .ok (.lmul, 1) := by decide +kernel
theorem d173_246 : decode (mB 173) 246 = .ok (.lastore, 1) := by decide +kernel
theorem d173_247 : decode (mB 173) 247 = .ok (.iinc 4 1, 3) := by decide +kernel
theorem d173_250 : decode (mB 173) 250 = .ok (.goto (-245), 3) := by decide +kernel
theorem d173_253 : decode (mB 173) 253 = .ok (.aload_n 0, 1) := by decide +kernel
theorem d173_254 : decode (mB 173) 254 = .ok (.getfield 167, 3) := by decide +kernel
theorem d173_257 : decode (mB 173) 257 = .ok (.iconst 0, 1) := by decide +kernel
theorem d173_258 : decode (mB 173) 258 = .ok (.laload, 1) := by decide +kernel
theorem d173_259 : decode (mB 173) 259 = .ok (.lreturn, 1) := by decide +kernel
theorem d161_0 : decode (mB 161) 0 = .ok (.bipush 32, 2) := by decide +kernel
theorem d161_2 : decode (mB 161) 2 = .ok (.iload_n 1, 1) := by decide +kernel
theorem d161_3 : decode (mB 161) 3 = .ok (.imul, 1) := by decide +kernel
theorem d161_4 : decode (mB 161) 4 = .ok (.aload_n 0, 1) := by decide +kernel
theorem d161_5 : decode (mB 161) 5 = .ok (.getfield 134, 3) := by decide +kernel
theorem d161_8 : decode (mB 161) 8 = .ok (.iload_n 1, 1) := by decide +kernel
theorem d161_9 : decode (mB 161) 9 = .ok (.iaload, 1) := by decide +kernel
theorem d161_10 : decode (mB 161) 10 = .ok (.iadd, 1) := by decide +kernel
theorem d161_11 : decode (mB 161) 11 = .ok (.istore 7, 2) := by decide +kernel
theorem d161_13 : decode (mB 161) 13 = .ok (.aload_n 0, 1) := by decide +kernel
theorem d161_14 : decode (mB 161) 14 = .ok (.getfield 137, 3) := by decide +kernel
theorem d161_17 : decode (mB 161) 17 = .ok (.iload 7, 2) := by decide +kernel
theorem d161_19 : decode (mB 161) 19 = .ok (.iload_n 2, 1) := by decide +kernel
theorem d161_20 : decode (mB 161) 20 = .ok (.iastore, 1) := by decide +kernel
theorem d161_21 : decode (mB 161) 21 = .ok (.aload_n 0, 1) := by decide +kernel
theorem d161_22 : decode (mB 161) 22 = .ok (.getfield 140, 3) := by decide +kernel
theorem d161_25 : decode (mB 161) 25 = .ok (.iload 7, 2) := by decide +kernel
theorem d161_27 : decode (mB 161) 27 = .ok (.lload_n 3, 1) := by decide +kernel
theorem d161_28 : decode (mB 161) 28 = .ok (.lastore, 1) := by decide +kernel
theorem d161_29 : decode (mB 161) 29 = .ok (.aload_n 0, 1) := by decide +kernel
theorem d161_30 : decode (mB 161) 30 = .ok (.getfield 143, 3) := by decide +kernel
theorem d161_33 : decode (mB 161) 33 = .ok (.iload 7, 2) := by decide +kernel
theorem d161_35 : decode (mB 161) 35 = .ok (.iload 5, 2) := by decide +kernel
theorem d161_37 : decode (mB 161) 37 = .ok (.iastore, 1) := by decide +kernel
theorem d161_38 : decode (mB 161) 38 = .ok (.aload_n 0, 1) := by decide +kernel
theorem d161_39 : decode (mB 161) 39 = .ok (.getfield 146, 3) := by decide +kernel
theorem d161_42 : decode (mB 161) 42 = .ok (.iload 7, 2) := by decide +kernel
theorem d161_44 : decode (mB 161) 44 = .ok (.iload 6, 2) := by decide +kernel
theorem d161_46 : decode (mB 161) 46 = .ok (.iastore, 1) := by decide +kernel
theorem d161_47 : decode (mB 161) 47 = .ok (.aload_n 0, 1) := by decide +kernel
theorem d161_48 : decode (mB 161) 48 = .ok (.getfield 134, 3) := by decide +kernel
theorem d161_51 : decode (mB 161) 51 = .ok (.iload_n 1, 1) := by decide +kernel
theorem d161_52 : decode (mB 161) 52 = .ok (.dup2, 1) := by decide +kernel
theorem d161_53 : decode (mB 161) 53 = .ok (.iaload, 1) := by decide +kernel
theorem d161_54 : decode (mB 161) 54 = .ok (.iconst 1, 1) := by decide +kernel
theorem d161_55 : decode (mB 161) 55 = .ok (.iadd, 1) := by decide +kernel
theorem d161_56 : decode (mB 161) 56 = .ok (.iastore, 1) := by decide +kernel
theorem d161_57 : decode (mB 161) 57 = .ok (.return_, 1) := by decide +kernel
theorem d165_0 : decode (mB 165) 0 = .ok (.aload_n 0, 1) := by decide +kernel
theorem d165_1 : decode (mB 165) 1 = .ok (.getfield 134, 3) := by decide +kernel
theorem d165_4 : decode (mB 165) 4 = .ok (.iload_n 1, 1) := by decide +kernel
theorem d165_5 : decode (mB 165) 5 = .ok (.dup2, 1) := by decide +kernel
theorem d165_6 : decode (mB 165) 6 = .ok (.iaload, 1) := by decide +kernel
theorem d165_7 : decode (mB 165) 7 = .ok (.iconst 1, 1) := by decide +kernel
theorem d165_8 : decode (mB 165) 8 = .ok (.isub, 1) := by decide +kernel
theorem d165_9 : decode (mB 165) 9 = .ok (.iastore, 1) := by decide +kernel
theorem d165_10 : decode (mB 165) 10 = .ok (.iload_n 2, 1) := by decide +kernel
theorem d165_11 : decode (mB 165) 11 = .ok (.istore_n 3, 1) := by decide +kernel
theorem d165_12 : decode (mB 165) 12 = .ok (.iload_n 3, 1) := by decide +kernel
theorem d165_13 : decode (mB 165) 13 = .ok (.aload_n 0, 1) := by decide +kernel
theorem d165_14 : decode (mB 165) 14 = .ok (.getfield 134, 3) := by decide +kernel
theorem d165_17 : decode (mB 165) 17 = .ok (.iload_n 1, 1) := by decide +kernel
theorem d165_18 : decode (mB 165) 18 = .ok (.iaload, 1) := by decide +kernel
theorem d165_19 : decode (mB 165) 19 = .ok (.if_icmp .ge 81, 3) := by decide +kernel
theorem d165_22 : decode (mB 165) 22 = .ok (.bipush 32, 2) := by decide +kernel
theorem d165_24 : decode (mB 165) 24 = .ok (.iload_n 1, 1) := by decide +kernel
theorem d165_25 : decode (mB 165) 25 = .ok (.imul, 1) := by decide +kernel
theorem d165_26 : decode (mB 165) 26 = .ok (.iload_n 3, 1) := by decide +kernel
theorem d165_27 : decode (mB 165) 27 = .ok (.iadd, 1) := by decide +kernel
theorem d165_28 : decode (mB 165) 28 = .ok (.istore 4, 2) := by decide +kernel
theorem d165_30 : decode (mB 165) 30 = .ok (.aload_n 0, 1) := by decide +kernel
theorem d165_31 : decode (mB 165) 31 = .ok (.getfield 137, 3) := by decide +kernel
theorem d165_34 : decode (mB 165) 34 = .ok (.iload 4, 2) := by decide +kernel
theorem d165_36 : decode (mB 165) 36 = .ok (.aload_n 0, 1) := by decide +kernel
theorem d165_37 : decode (mB 165) 37 = .ok (.getfield 137, 3) := by decide +kernel
theorem d165_40 : decode (mB 165) 40 = .ok (.iload 4, 2) := by decide +kernel
theorem d165_42 : decode (mB 165) 42 = .ok (.iconst 1, 1) := by decide +kernel
theorem d165_43 : decode (mB 165) 43 = .ok (.iadd, 1) := by decide +kernel
theorem d165_44 : decode (mB 165) 44 = .ok (.iaload, 1) := by decide +kernel
theorem d165_45 : decode (mB 165) 45 = .ok (.iastore, 1) := by decide +kernel
theorem d165_46 : decode (mB 165) 46 = .ok (.aload_n 0, 1) := by decide +kernel
theorem d165_47 : decode (mB 165) 47 = .ok (.getfield 140, 3) := by decide +kernel
theorem d165_50 : decode (mB 165) 50 = .ok (.iload 4, 2) := by decide +kernel
theorem d165_52 : decode (mB 165) 52 = .ok (.aload_n 0, 1) := by decide +kernel
theorem d165_53 : decode (mB 165) 53 = .ok (.getfield 140, 3) := by decide +kernel
theorem d165_56 : decode (mB 165) 56 = .ok (.iload 4, 2) := by decide +kernel
theorem d165_58 : decode (mB 165) 58 = .ok (.iconst 1, 1) := by decide +kernel
theorem d165_59 : decode (mB 165) 59 = .ok (.iadd, 1) := by decide +kernel
theorem d165_60 : decode (mB 165) 60 = .ok (.laload, 1) := by decide +kernel
theorem d165_61 : decode (mB 165) 61 = .ok (.lastore, 1) := by decide +kernel
theorem d165_62 : decode (mB 165) 62 = .ok (.aload_n 0, 1) := by decide +kernel
theorem d165_63 : decode (mB 165) 63 = .ok (.getfield 143, 3) := by decide +kernel
theorem d165_66 : decode (mB 165) 66 = .ok (.iload 4, 2) := by decide +kernel
theorem d165_68 : decode (mB 165) 68 = .ok (.aload_n 0, 1) := by decide +kernel
theorem d165_69 : decode (mB 165) 69 = .ok (.getfield 143, 3) := by decide +kernel
theorem d165_72 : decode (mB 165) 72 = .ok (.iload 4, 2) := by decide +kernel
theorem d165_74 : decode (mB 165) 74 = .ok (.iconst 1, 1) := by decide +kernel
theorem d165_75 : decode (mB 165) 75 = .ok (.iadd, 1) := by decide +kernel
theorem d165_76 : decode (mB 165) 76 = .ok (.iaload, 1) := by decide +kernel
theorem d165_77 : decode (mB 165) 77 = .ok (.iastore, 1) := by decide +kernel
theorem d165_78 : decode (mB 165) 78 = .ok (.aload_n 0, 1) := by decide +kernel
theorem d165_79 : decode (mB 165) 79 = .ok (.getfield 146, 3) := by decide +kernel
theorem d165_82 : decode (mB 165) 82 = .ok (.iload 4, 2) := by decide +kernel
theorem d165_84 : decode (mB 165) 84 = .ok (.aload_n 0, 1) := by decide +kernel
theorem d165_85 : decode (mB 165) 85 = .ok (.getfield 146, 3) := by decide +kernel
theorem d165_88 : decode (mB 165) 88 = .ok (.iload 4, 2) := by decide +kernel
theorem d165_90 : decode (mB 165) 90 = .ok (.iconst 1, 1) := by decide +kernel
theorem d165_91 : decode (mB 165) 91 = .ok (.iadd, 1) := by decide +kernel
theorem d165_92 : decode (mB 165) 92 = .ok (.iaload, 1) := by decide +kernel
theorem d165_93 : decode (mB 165) 93 = .ok (.iastore, 1) := by decide +kernel
theorem d165_94 : decode (mB 165) 94 = .ok (.iinc 3 1, 3) := by decide +kernel
theorem d165_97 : decode (mB 165) 97 = .ok (.goto (-85), 3) := by decide +kernel
theorem d165_100 : decode (mB 165) 100 = .ok (.return_, 1) := by decide +kernel
theorem d176_0 : decode (mB 176) 0 = .ok (.iconst 0, 1) := by decide +kernel
theorem d176_1 : decode (mB 176) 1 = .ok (.istore_n 3, 1) := by decide +kernel
theorem d176_2 : decode (mB 176) 2 = .ok (.iconst 0, 1) := by decide +kernel
theorem d176_3 : decode (mB 176) 3 = .ok (.istore 4, 2) := by decide +kernel
theorem d176_5 : decode (mB 176) 5 = .ok (.iload 4, 2) := by decide +kernel
theorem d176_7 : decode (mB 176) 7 = .ok (.aload_n 0, 1) := by decide +kernel
theorem d176_8 : decode (mB 176) 8 = .ok (.getfield 134, 3) := by decide +kernel
theorem d176_11 : decode (mB 176) 11 = .ok (.iload_n 1, 1) := by decide +kernel
theorem d176_12 : decode (mB 176) 12 = .ok (.iaload, 1) := by decide +kernel
theorem d176_13 : decode (mB 176) 13 = .ok (.if_icmp .ge 35, 3) := by decide +kernel
theorem d176_16 : decode (mB 176) 16 = .ok (.iload_n 3, 1) := by decide +kernel
theorem d176_17 : decode (mB 176) 17 = .ok (.ifCond .ne 19, 3) := by decide +kernel
theorem d176_20 : decode (mB 176) 20 = .ok (.aload_n 0, 1) := by decide +kernel
theorem d176_21 : decode (mB 176) 21 = .ok (.getfield 146, 3) := by decide +kernel
theorem d176_24 : decode (mB 176) 24 = .ok (.bipush 32, 2) := by decide +kernel
theorem d176_26 : decode (mB 176) 26 = .ok (.iload_n 1, 1) := by decide +kernel
theorem d176_27 : decode (mB 176) 27 = .ok (.imul, 1) := by decide +kernel
theorem d176_28 : decode (mB 176) 28 = .ok (.iload 4, 2) := by decide +kernel
theorem d176_30 : decode (mB 176) 30 = .ok (.iadd, 1) := by decide +kernel
theorem d176_31 : decode (mB 176) 31 = .ok (.iaload, 1) := by decide +kernel
theorem d176_32 : decode (mB 176) 32 = .ok (.iload_n 2, 1) := by decide +kernel
theorem d176_33 : decode (mB 176) 33 = .ok (.if_icmp .ne 7, 3) := by decide +kernel
theorem d176_36 : decode (mB 176) 36 = .ok (.iconst 1, 1) := by decide +kernel
theorem d176_37 : decode (mB 176) 37 = .ok (.goto 4, 3) := by decide +kernel
theorem d176_40 : decode (mB 176) 40 = .ok (.iconst 0, 1) := by decide +kernel
theorem d176_41 : decode (mB 176) 41 = .ok (.istore_n 3, 1) := by decide +kernel
theorem d176_42 : decode (mB 176) 42 = .ok (.iinc 4 1, 3) := by decide +kernel
theorem d176_45 : decode (mB 176) 45 = .ok (.goto (-40), 3) := by decide +kernel
theorem d176_48 : decode (mB 176) 48 = .ok (.iload_n 3, 1) := by decide +kernel
theorem d176_49 : decode (mB 176) 49 = .ok (.ireturn, 1) := by decide +kernel
theorem d170_0 : decode (mB 170) 0 = .ok (.aload_n 0, 1) := by decide +kernel
theorem d170_1 : decode (mB 170) 1 = .ok (.getfield 134, 3) := by decide +kernel
theorem d170_4 : decode (mB 170) 4 = .ok (.iload_n 1, 1) := by decide +kernel
theorem d170_5 : decode (mB 170) 5 = .ok (.iaload, 1) := by decide +kernel
theorem d170_6 : decode (mB 170) 6 = .ok (.iconst 1, 1) := by decide +kernel
theorem d170_7 : decode (mB 170) 7 = .ok (.isub, 1) := by decide +kernel
theorem d170_8 : decode (mB 170) 8 = .ok (.istore_n 3, 1) := by decide +kernel
theorem d170_9 : decode (mB 170) 9 = .ok (.iload_n 3, 1) := by decide +kernel
theorem d170_10 : decode (mB 170) 10 = .ok (.ifCond .lt 30, 3) := by decide +kernel
theorem d170_13 : decode (mB 170) 13 = .ok (.aload_n 0, 1) := by decide +kernel
theorem d170_14 : decode (mB 170) 14 = .ok (.getfield 146, 3) := by decide +kernel
theorem d170_17 : decode (mB 170) 17 = .ok (.bipush 32, 2) := by decide +kernel
theorem d170_19 : decode (mB 170) 19 = .ok (.iload_n 1, 1) := by decide +kernel
theorem d170_20 : decode (mB 170) 20 = .ok (.imul, 1) := by decide +kernel
theorem d170_21 : decode (mB 170) 21 = .ok (.iload_n 3, 1) := by decide +kernel
theorem d170_22 : decode (mB 170) 22 = .ok (.iadd, 1) := by decide +kernel
theorem d170_23 : decode (mB 170) 23 = .ok (.iaload, 1) := by decide +kernel
theorem d170_24 : decode (mB 170) 24 = .ok (.iload_n 2, 1) := by decide +kernel
theorem d170_25 : decode (mB 170) 25 = .ok (.if_icmp .ne 9, 3) := by decide +kernel
theorem d170_28 : decode (mB 170) 28 = .ok (.aload_n 0, 1) := by decide +kernel
theorem d170_29 : decode (mB 170) 29 = .ok (.iload_n 1, 1) := by decide +kernel
theorem d170_30 : decode (mB 170) 30 = .ok (.iload_n 3, 1) := by decide +kernel
theorem d170_31 : decode (mB 170) 31 = .ok (.invokevirtual 356, 3) := by decide +kernel
theorem d170_34 : decode (mB 170) 34 = .ok (.iinc 3 (-1), 3) := by decide +kernel
theorem d170_37 : decode (mB 170) 37 = .ok (.goto (-28), 3) := by decide +kernel
theorem d170_40 : decode (mB 170) 40 = .ok (.return_, 1) := by decide +kernel
theorem d167_0 : decode (mB 167) 0 = .ok (.bipush 9, 2) := by decide +kernel
theorem d167_2 : decode (mB 167) 2 = .ok (.iload_n 1, 1) := by decide +kernel
theorem d167_3 : decode (mB 167) 3 = .ok (.imul, 1) := by decide +kernel
theorem d167_4 : decode (mB 167) 4 = .ok (.aload_n 0, 1) := by decide +kernel
theorem d167_5 : decode (mB 167) 5 = .ok (.getfield 107, 3) := by decide +kernel
theorem d167_8 : decode (mB 167) 8 = .ok (.iload_n 1, 1) := by decide +kernel
theorem d167_9 : decode (mB 167) 9 = .ok (.iaload, 1) := by decide +kernel
theorem d167_10 : decode (mB 167) 10 = .ok (.iadd, 1) := by decide +kernel
theorem d167_11 : decode (mB 167) 11 = .ok (.istore 5, 2) := by decide +kernel
theorem d167_13 : decode (mB 167) 13 = .ok (.aload_n 0, 1) := by decide +kernel
theorem d167_14 : decode (mB 167) 14 = .ok (.getfield 107, 3) := by decide +kernel
theorem d167_17 : decode (mB 167) 17 = .ok (.iload_n 1, 1) := by decide +kernel
theorem d167_18 : decode (mB 167) 18 = .ok (.dup2, 1) := by decide +kernel
theorem d167_19 : decode (mB 167) 19 = .ok (.iaload, 1) := by decide +kernel
theorem d167_20 : decode (mB 167) 20 = .ok (.iconst 1, 1) := by decide +kernel
theorem d167_21 : decode (mB 167) 21 = .ok (.iadd, 1) := by decide +kernel
theorem d167_22 : decode (mB 167) 22 = .ok (.iastore, 1) := by decide +kernel
theorem d167_23 : decode (mB 167) 23 = .ok (.aload_n 0, 1) := by decide +kernel
theorem d167_24 : decode (mB 167) 24 = .ok (.getfield 110, 3) := by decide +kernel
theorem d167_27 : decode (mB 167) 27 = .ok (.iload 5, 2) := by decide +kernel
theorem d167_29 : decode (mB 167) 29 = .ok (.iload_n 2, 1) := by decide +kernel
theorem d167_30 : decode (mB 167) 30 = .ok (.iastore, 1) := by decide +kernel
theorem d167_31 : decode (mB 167) 31 = .ok (.aload_n 0, 1) := by decide +kernel
theorem d167_32 : decode (mB 167) 32 = .ok (.getfield 113, 3) := by decide +kernel
theorem d167_35 : decode (mB 167) 35 = .ok (.iload 5, 2) := by decide +kernel
theorem d167_37 : decode (mB 167) 37 = .ok (.iload_n 3, 1) := by decide +kernel
theorem d167_38 : decode (mB 167) 38 = .ok (.iastore, 1) := by decide +kernel
theorem d167_39 : decode (mB 167) 39 = .ok (.aload_n 0, 1) := by decide +kernel
theorem d167_40 : decode (mB 167) 40 = .ok (.getfield 116, 3) := by decide +kernel
theorem d167_43 : decode (mB 167) 43 = .ok (.iload 5, 2) := by decide +kernel
theorem d167_45 : decode (mB 167) 45 = .ok (.aload_n 0, 1) := by decide +kernel
theorem d167_46 : decode (mB 167) 46 = .ok (.getfield 95, 3) := by decide +kernel
theorem d167_49 : decode (mB 167) 49 = .ok (.iload_n 1, 1) := by decide +kernel
theorem d167_50 : decode (mB 167) 50 = .ok (.iaload, 1) := by decide +kernel
theorem d167_51 : decode (mB 167) 51 = .ok (.iastore, 1) := by decide +kernel
theorem d167_52 : decode (mB 167) 52 = .ok (.aload_n 0, 1) := by decide +kernel
theorem d167_53 : decode (mB 167) 53 = .ok (.getfield 119, 3) := by decide +kernel
theorem d167_56 : decode (mB 167) 56 = .ok (.iload 5, 2) := by decide +kernel
theorem d167_58 : decode (mB 167) 58 = .ok (.aload_n 0, 1) := by decide +kernel
theorem d167_59 : decode (mB 167) 59 = .ok (.getfield 33, 3) := by decide +kernel
theorem d167_62 : decode (mB 167) 62 = .ok (.iload_n 2, 1) := by decide +kernel
theorem d167_63 : decode (mB 167) 63 = .ok (.iaload, 1) := by decide +kernel
theorem d167_64 : decode (mB 167) 64 = .ok (.bipush 18, 2) := by decide +kernel
theorem d167_66 : decode (mB 167) 66 = .ok (.if_icmp .ne 23, 3) := by decide +kernel
theorem d167_69 : decode (mB 167) 69 = .ok (.iload_n 3, 1) := by decide +kernel
theorem d167_70 : decode (mB 167) 70 = .ok (.ifCond .ne 19, 3) := by decide +kernel
theorem d167_73 : decode (mB 167) 73 = .ok (.aload_n 0, 1) := by decide +kernel
theorem d167_74 : decode (mB 167) 74 = .ok (.getfield 353, 3) := by decide +kernel
theorem d167_77 : decode (mB 167) 77 = .ok (.i2l, 1) := by decide +kernel
theorem d167_78 : decode (mB 167) 78 = .ok (.aload_n 0, 1) := by decide +kernel
theorem d167_79 : decode (mB 167) 79 = .ok (.getfield 55, 3) := by decide +kernel
theorem d167_82 : decode (mB 167) 82 = .ok (.iload_n 2, 1) := by decide +kernel
theorem d167_83 : decode (mB 167) 83 = .ok (.iaload, 1) := by decide +kernel
theorem d167_84 : decode (mB 167) 84 = .ok (.i2l, 1) := by decide +kernel
theorem d167_85 : decode (mB 167) 85 = .ok (.ladd, 1) := by decide +kernel
theorem d167_86 : decode (mB 167) 86 = .ok (.goto 6, 3) := by decide +kernel
theorem d167_89 : decode (mB 167) 89 = .ok (.ldc2_w 359, 3) := by decide +kernel
theorem d167_92 : decode (mB 167) 92 = .ok (.lastore, 1) := by decide +kernel
theorem d167_93 : decode (mB 167) 93 = .ok (.aload_n 0, 1) := by decide +kernel
theorem d167_94 : decode (mB 167) 94 = .ok (.getfield 122, 3) := by decide +kernel
theorem d167_97 : decode (mB 167) 97 = .ok (.iload 5, 2) := by decide +kernel
theorem d167_99 : decode (mB 167) 99 = .ok (.iconst 0, 1) := by decide +kernel
theorem d167_100 : decode (mB 167) 100 = .ok (.bastore, 1) := by decide +kernel
theorem d167_101 : decode (mB 167) 101 = .ok (.aload_n 0, 1) := by decide +kernel
theorem d167_102 : decode (mB 167) 102 = .ok (.getfield 125, 3) := by decide +kernel
theorem d167_105 : decode (mB 167) 105 = .ok (.iload 5, 2) := by decide +kernel
theorem d167_107 : decode (mB 167) 107 = .ok (.iconst 0, 1) := by decide +kernel
theorem d167_108 : decode (mB 167) 108 = .ok (.iastore, 1) := by decide +kernel
theorem d167_109 : decode (mB 167) 109 = .ok (.aload_n 0, 1) := by decide +kernel
theorem d167_110 : decode (mB 167) 110 = .ok (.getfield 95, 3) := by decide +kernel
theorem d167_113 : decode (mB 167) 113 = .ok (.iload_n 1, 1) := by decide +kernel
theorem d167_114 : decode (mB 167) 114 = .ok (.iload 4, 2) := by decide +kernel
theorem d167_116 : decode (mB 167) 116 = .ok (.iastore, 1) := by decide +kernel
theorem d167_117 : decode (mB 167) 117 = .ok (.aload_n 0, 1) := by decide +kernel
theorem d167_118 : decode (mB 167) 118 = .ok (.getfield 92, 3) := by decide +kernel
theorem d167_121 : decode (mB 167) 121 = .ok (.iload_n 1, 1) := by decide +kernel
theorem d167_122 : decode (mB 167) 122 = .ok (.aload_n 0, 1) := by decide +kernel
theorem d167_123 : decode (mB 167) 123 = .ok (.getfield 42, 3) := by decide +kernel
theorem d167_126 : decode (mB 167) 126 = .ok (.iconst 3, 1) := by decide +kernel
theorem d167_127 : decode (mB 167) 127 = .ok (.iload_n 2, 1) := by decide +kernel
theorem d167_128 : decode (mB 167) 128 = .ok (.imul, 1) := by decide +kernel
theorem d167_129 : decode (mB 167) 129 = .ok (.iload_n 3, 1) := by decide +kernel
theorem d167_130 : decode (mB 167) 130 = .ok (.iadd, 1) := by decide +kernel
theorem d167_131 : decode (mB 167) 131 = .ok (.iaload, 1) := by decide +kernel
theorem d167_132 : decode (mB 167) 132 = .ok (.iastore, 1) := by decide +kernel
theorem d167_133 : decode (mB 167) 133 = .ok (.return_, 1) := by decide +kernel
theorem d164_0 : decode (mB 164) 0 = .ok (.aload_n 0, 1) := by decide +kernel
theorem d164_1 : decode (mB 164) 1 = .ok (.getfield 107, 3) := by decide +kernel
theorem d164_4 : decode (mB 164) 4 = .ok (.iload_n 1, 1) := by decide +kernel
theorem d164_5 : decode (mB 164) 5 = .ok (.dup2, 1) := by decide +kernel
theorem d164_6 : decode (mB 164) 6 = .ok (.iaload, 1) := by decide +kernel
theorem d164_7 : decode (mB 164) 7 = .ok (.iconst 1, 1) := by decide +kernel
theorem d164_8 : decode (mB 164) 8 = .ok (.isub, 1) := by decide +kernel
theorem d164_9 : decode (mB 164) 9 = .ok (.iastore, 1) := by decide +kernel
theorem d164_10 : decode (mB 164) 10 = .ok (.bipush 9, 2) := by decide +kernel
theorem d164_12 : decode (mB 164) 12 = .ok (.iload_n 1, 1) := by decide +kernel
theorem d164_13 : decode (mB 164) 13 = .ok (.imul, 1) := by decide +kernel
theorem d164_14 : decode (mB 164) 14 = .ok (.aload_n 0, 1) := by decide +kernel
theorem d164_15 : decode (mB 164) 15 = .ok (.getfield 107, 3) := by decide +kernel
theorem d164_18 : decode (mB 164) 18 = .ok (.iload_n 1, 1) := by decide +kernel
theorem d164_19 : decode (mB 164) 19 = .ok (.iaload, 1) := by decide +kernel
theorem d164_20 : decode (mB 164) 20 = .ok (.iadd, 1) := by decide +kernel
theorem d164_21 : decode (mB 164) 21 = .ok (.istore_n 2, 1) := by decide +kernel
theorem d164_22 : decode (mB 164) 22 = .ok (.aload_n 0, 1) := by decide +kernel
theorem d164_23 : decode (mB 164) 23 = .ok (.getfield 95, 3) := by decide +kernel
theorem d164_26 : decode (mB 164) 26 = .ok (.iload_n 1, 1) := by decide +kernel
theorem d164_27 : decode (mB 164) 27 = .ok (.aload_n 0, 1) := by decide +kernel
theorem d164_28 : decode (mB 164) 28 = .ok (.getfield 116, 3) := by decide +kernel
theorem d164_31 : decode (mB 164) 31 = .ok (.iload_n 2, 1) := by decide +kernel
theorem d164_32 : decode (mB 164) 32 = .ok (.iaload, 1) := by decide +kernel
theorem d164_33 : decode (mB 164) 33 = .ok (.iastore, 1) := by decide +kernel
theorem d164_34 : decode (mB 164) 34 = .ok (.aload_n 0, 1) := by decide +kernel
theorem d164_35 : decode (mB 164) 35 = .ok (.getfield 33, 3) := by decide +kernel
theorem d164_38 : decode (mB 164) 38 = .ok (.aload_n 0, 1) := by decide +kernel
theorem d164_39 : decode (mB 164) 39 = .ok (.getfield 110, 3) := by decide +kernel
theorem d164_42 : decode (mB 164) 42 = .ok (.iload_n 2, 1) := by decide +kernel
theorem d164_43 : decode (mB 164) 43 = .ok (.iaload, 1) := by decide +kernel
theorem d164_44 : decode (mB 164) 44 = .ok (.iaload, 1) := by decide +kernel
theorem d164_45 : decode (mB 164) 45 = .ok (.bipush 18, 2) := by decide +kernel
theorem d164_47 : decode (mB 164) 47 = .ok (.if_icmp .ne 73, 3) := by decide +kernel
theorem d164_50 : decode (mB 164) 50 = .ok (.aload_n 0, 1) := by decide +kernel
theorem d164_51 : decode (mB 164) 51 = .ok (.getfield 113, 3) := by decide +kernel
theorem d164_54 : decode (mB 164) 54 = .ok (.iload_n 2, 1) := by decide +kernel
theorem d164_55 : decode (mB 164) 55 = .ok (.iaload, 1) := by decide +kernel
theorem d164_56 : decode (mB 164) 56 = .ok (.ifCond .ne 64, 3) := by decide +kernel
theorem d164_59 : decode (mB 164) 59 = .ok (.aload_n 0, 1) := by decide +kernel
theorem d164_60 : decode (mB 164) 60 = .ok (.getfield 134, 3) := by decide +kernel
theorem d164_63 : decode (mB 164) 63 = .ok (.iload_n 1, 1) := by decide +kernel
theorem d164_64 : decode (mB 164) 64 = .ok (.iaload, 1) := by decide +kernel
theorem d164_65 : decode (mB 164) 65 = .ok (.iconst 1, 1) := by decide +kernel
theorem d164_66 : decode (mB 164) 66 = .ok (.isub, 1) := by decide +kernel
theorem d164_67 : decode (mB 164) 67 = .ok (.istore_n 3, 1) := by decide +kernel
theorem d164_68 : decode (mB 164) 68 = .ok (.iload_n 3, 1) := by decide +kernel
theorem d164_69 : decode (mB 164) 69 = .ok (.ifCond .lt 51, 3) := by decide +kernel
theorem d164_72 : decode (mB 164) 72 = .ok (.aload_n 0, 1) := by decide +kernel
theorem d164_73 : decode (mB 164) 73 = .ok (.getfield 137, 3) := by decide +kernel
theorem d164_76 : decode (mB 164) 76 = .ok (.bipush 32, 2) := by decide +kernel
theorem d164_78 : decode (mB 164) 78 = .ok (.iload_n 1, 1) := by decide +kernel
theorem d164_79 : decode (mB 164) 79 = .ok (.imul, 1) := by decide +kernel
theorem d164_80 : decode (mB 164) 80 = .ok (.iload_n 3, 1) := by decide +kernel
theorem d164_81 : decode (mB 164) 81 = .ok (.iadd, 1) := by decide +kernel
theorem d164_82 : decode (mB 164) 82 = .ok (.iaload, 1) := by decide +kernel
theorem d164_83 : decode (mB 164) 83 = .ok (.bipush 7, 2) := by decide +kernel
theorem d164_85 : decode (mB 164) 85 = .ok (.if_icmp .ne 29, 3) := by decide +kernel
theorem d164_88 : decode (mB 164) 88 = .ok (.aload_n 0, 1) := by decide +kernel
theorem d164_89 : decode (mB 164) 89 = .ok (.getfield 143, 3) := by decide +kernel
theorem d164_92 : decode (mB 164) 92 = .ok (.bipush 32, 2) := by decide +kernel
theorem d164_94 : decode (mB 164) 94 = .ok (.iload_n 1, 1) := by decide +kernel
theorem d164_95 : decode (mB 164) 95 = .ok (.imul, 1) := by decide +kernel
theorem d164_96 : decode (mB 164) 96 = .ok (.iload_n 3, 1) := by decide +kernel
theorem d164_97 : decode (mB 164) 97 = .ok (.iadd, 1) := by decide +kernel
theorem d164_98 : decode (mB 164) 98 = .ok (.iaload, 1) := by decide +kernel
theorem d164_99 : decode (mB 164) 99 = .ok (.aload_n 0, 1) := by decide +kernel
theorem d164_100 : decode (mB 164) 100 = .ok (.getfield 107, 3) := by decide +kernel
theorem d164_103 : decode (mB 164) 103 = .ok (.iload_n 1, 1) := by decide +kernel
theorem d164_104 : decode (mB 164) 104 = .ok (.iaload, 1) := by decide +kernel
theorem d164_105 : decode (mB 164) 105 = .ok (.if_icmp .ne 9, 3) := by decide +kernel
theorem d164_108 : decode (mB 164) 108 = .ok (.aload_n 0, 1) := by decide +kernel
theorem d164_109 : decode (mB 164) 109 = .ok (.iload_n 1, 1) := by decide +kernel
theorem d164_110 : decode (mB 164) 110 = .ok (.iload_n 3, 1) := by decide +kernel
theorem d164_111 : decode (mB 164) 111 = .ok (.invokevirtual 356, 3) := by decide +kernel
theorem d164_114 : decode (mB 164) 114 = .ok (.iinc 3 (-1), 3) := by decide +kernel
theorem d164_117 : decode (mB 164) 117 = .ok (.goto (-49), 3) := by decide +kernel
theorem d164_120 : decode (mB 164) 120 = .ok (.return_, 1) := by decide +kernel
theorem d168_0 : decode (mB 168) 0 = .ok (.iload_n 0, 1) := by decide +kernel
theorem d168_1 : decode (mB 168) 1 = .ok (.iload_n 1, 1) := by decide +kernel
theorem d168_2 : decode (mB 168) 2 = .ok (.if_icmp .le 7, 3) := by decide +kernel
theorem d168_5 : decode (mB 168) 5 = .ok (.iload_n 0, 1) := by decide +kernel
theorem d168_6 : decode (mB 168) 6 = .ok (.goto 4, 3) := by decide +kernel
theorem d168_9 : decode (mB 168) 9 = .ok (.iload_n 1, 1) := by decide +kernel
theorem d168_10 : decode (mB 168) 10 = .ok (.ireturn, 1) := by decide +kernel
theorem d163_0 : decode (mB 163) 0 = .ok (.aload_n 0, 1) := by decide +kernel
theorem d163_1 : decode (mB 163) 1 = .ok (.getfield 92, 3) := by decide +kernel
theorem d163_4 : decode (mB 163) 4 = .ok (.iload_n 1, 1) := by decide +kernel
theorem d163_5 : decode (mB 163) 5 = .ok (.iaload, 1) := by decide +kernel
theorem d163_6 : decode (mB 163) 6 = .ok (.ifCond .ge 186, 3) := by decide +kernel
theorem d163_9 : decode (mB 163) 9 = .ok (.aload_n 0, 1) := by decide +kernel
theorem d163_10 : decode (mB 163) 10 = .ok (.getfield 107, 3) := by decide +kernel
theorem d163_13 : decode (mB 163) 13 = .ok (.iload_n 1, 1) := by decide +kernel
theorem d163_14 : decode (mB 163) 14 = .ok (.iaload, 1) := by decide +kernel
theorem d163_15 : decode (mB 163) 15 = .ok (.ifCond .le 177, 3) := by decide +kernel
theorem d163_18 : decode (mB 163) 18 = .ok (.bipush 9, 2) := by decide +kernel
theorem d163_20 : decode (mB 163) 20 = .ok (.iload_n 1, 1) := by decide +kernel
theorem d163_21 : decode (mB 163) 21 = .ok (.imul, 1) := by decide +kernel
theorem d163_22 : decode (mB 163) 22 = .ok (.aload_n 0, 1) := by decide +kernel
theorem d163_23 : decode (mB 163) 23 = .ok (.getfield 107, 3) := by decide +kernel
theorem d163_26 : decode (mB 163) 26 = .ok (.iload_n 1, 1) := by decide +kernel
theorem d163_27 : decode (mB 163) 27 = .ok (.iaload, 1) := by decide +kernel
theorem d163_28 : decode (mB 163) 28 = .ok (.iadd, 1) := by decide +kernel
theorem d163_29 : decode (mB 163) 29 = .ok (.iconst 1, 1) := by decide +kernel
theorem d163_30 : decode (mB 163) 30 = .ok (.isub, 1) := by decide +kernel
theorem d163_31 : decode (mB 163) 31 = .ok (.istore_n 2, 1) := by decide +kernel
theorem d163_32 : decode (mB 163) 32 = .ok (.aload_n 0, 1) := by decide +kernel
theorem d163_33 : decode (mB 163) 33 = .ok (.getfield 110, 3) := by decide +kernel
theorem d163_36 : decode (mB 163) 36 = .ok (.iload_n 2, 1) := by decide +kernel
theorem d163_37 : decode (mB 163) 37 = .ok (.iaload, 1) := by decide +kernel
theorem d163_38 : decode (mB 163) 38 = .ok (.istore_n 3, 1) := by decide +kernel
theorem d163_39 : decode (mB 163) 39 = .ok (.aload_n 0, 1) := by decide +kernel
theorem d163_40 : decode (mB 163) 40 = .ok (.getfield 113, 3) := by decide +kernel
theorem d163_43 : decode (mB 163) 43 = .ok (.iload_n 2, 1) := by decide +kernel
theorem d163_44 : decode (mB 163) 44 = .ok (.iaload, 1) := by decide +kernel
theorem d163_45 : decode (mB 163) 45 = .ok (.istore 4, 2) := by decide +kernel
theorem d163_47 : decode (mB 163) 47 = .ok (.aload_n 0, 1) := by decide +kernel
theorem d163_48 : decode (mB 163) 48 = .ok (.iload_n 1, 1) := by decide +kernel
theorem d163_49 : decode (mB 163) 49 = .ok (.invokevirtual 361, 3) := by decide +kernel
theorem d163_52 : decode (mB 163) 52 = .ok (.aload_n 0, 1) := by decide +kernel
theorem d163_53 : decode (mB 163) 53 = .ok (.getfield 33, 3) := by decide +kernel
theorem d163_56 : decode (mB 163) 56 = .ok (.iload_n 3, 1) := by decide +kernel
theorem d163_57 : decode (mB 163) 57 = .ok (.iaload, 1) := by decide +kernel
theorem d163_58 : decode (mB 163) 58 = .ok (.iconst 3, 1) := by decide +kernel
theorem d163_59 : decode (mB 163) 59 = .ok (.if_icmp .ne 13, 3) := by decide +kernel
theorem d163_62 : decode (mB 163) 62 = .ok (.aload_n 0, 1) := by decide +kernel
theorem d163_63 : decode (mB 163) 63 = .ok (.getfield 92, 3) := by decide +kernel
theorem d163_66 : decode (mB 163) 66 = .ok (.iload_n 1, 1) := by decide +kernel
theorem d163_67 : decode (mB 163) 67 = .ok (.iload_n 3, 1) := by decide +kernel
theorem d163_68 : decode (mB 163) 68 = .ok (.iastore, 1) := by decide +kernel
theorem d163_69 : decode (mB 163) 69 = .ok (.goto 120, 3) := by decide +kernel
theorem d163_72 : decode (mB 163) 72 = .ok (.aload_n 0, 1) := by decide +kernel
theorem d163_73 : decode (mB 163) 73 = .ok (.getfield 33, 3) := by decide +kernel
theorem d163_76 : decode (mB 163) 76 = .ok (.iload_n 3, 1) := by decide +kernel
theorem d163_77 : decode (mB 163) 77 = .ok (.iaload, 1) := by decide +kernel
theorem d163_78 : decode (mB 163) 78 = .ok (.bipush 15, 2) := by decide +kernel
theorem d163_80 : decode (mB 163) 80 = .ok (.if_icmp .ne 31, 3) := by decide +kernel
theorem d163_83 : decode (mB 163) 83 = .ok (.iload 4, 2) := by decide +kernel
theorem d163_85 : decode (mB 163) 85 = .ok (.ifCond .ne 26, 3) := by decide +kernel
theorem d163_88 : decode (mB 163) 88 = .ok (.aload_n 0, 1) := by decide +kernel
theorem d163_89 : decode (mB 163) 89 = .ok (.iconst 2, 1) := by decide +kernel
theorem d163_90 : decode (mB 163) 90 = .ok (.iload_n 1, 1) := by decide +kernel
theorem d163_91 : decode (mB 163) 91 = .ok (.lconst 0, 1) := by decide +kernel
theorem d163_92 : decode (mB 163) 92 = .ok (.invokevirtual 364, 3) := by decide +kernel
theorem d163_95 : decode (mB 163) 95 = .ok (.aload_n 0, 1) := by decide +kernel
theorem d163_96 : decode (mB 163) 96 = .ok (.iload_n 1, 1) := by decide +kernel
theorem d163_97 : decode (mB 163) 97 = .ok (.iload_n 3, 1) := by decide +kernel
theorem d163_98 : decode (mB 163) 98 = .ok (.iconst 1, 1) := by decide +kernel
theorem d163_99 : decode (mB 163) 99 = .ok (.aload_n 0, 1) := by decide +kernel
theorem d163_100 : decode (mB 163) 100 = .ok (.getfield 95, 3) := by decide +kernel
theorem d163_103 : decode (mB 163) 103 = .ok (.iload_n 1, 1) := by decide +kernel
theorem d163_104 : decode (mB 163) 104 = .ok (.iaload, 1) := by decide +kernel
theorem d163_105 : decode (mB 163) 105 = .ok (.invokevirtual 367, 3) := by decide +kernel
theorem d163_108 : decode (mB 163) 108 = .ok (.goto 81, 3) := by decide +kernel
theorem d163_111 : decode (mB 163) 111 = .ok (.aload_n 0, 1) := by decide +kernel
theorem d163_112 : decode (mB 163) 112 = .ok (.getfield 33, 3) := by decide +kernel
theorem d163_115 : decode (mB 163) 115 = .ok (.iload_n 3, 1) := by decide +kernel
theorem d163_116 : decode (mB 163) 116 = .ok (.iaload, 1) := by decide +kernel
theorem d163_117 : decode (mB 163) 117 = .ok (.bipush 15, 2) := by decide +kernel
theorem d163_119 : decode (mB 163) 119 = .ok (.if_icmp .ne 36, 3) := by decide +kernel
theorem d163_122 : decode (mB 163) 122 = .ok (.iload 4, 2) := by decide +kernel
theorem d163_124 : decode (mB 163) 124 = .ok (.iconst 1, 1) := by decide +kernel
theorem d163_125 : decode (mB 163) 125 = .ok (.if_icmp .ne 30, 3) := by decide +kernel
theorem d163_128 : decode (mB 163) 128 = .ok (.aload_n 0, 1) := by decide +kernel
theorem d163_129 : decode (mB 163) 129 = .ok (.iconst 3, 1) := by decide +kernel
theorem d163_130 : decode (mB 163) 130 = .ok (.iload_n 1, 1) := by decide +kernel
theorem d163_131 : decode (mB 163) 131 = .ok (.lconst 0, 1) := by decide +kernel
theorem d163_132 : decode (mB 163) 132 = .ok (.invokevirtual 364, 3) := by decide +kernel
theorem d163_135 : decode (mB 163) 135 = .ok (.aload_n 0, 1) := by decide +kernel
theorem d163_136 : decode (mB 163) 136 = .ok (.iload_n 1, 1) := by decide +kernel
theorem d163_137 : decode (mB 163) 137 = .ok (.iload_n 3, 1) := by decide +kernel
theorem d163_138 : decode (mB 163) 138 = .ok (.iconst 2, 1) := by decide +kernel
theorem d163_139 : decode (mB 163) 139 = .ok (.aload_n 0, 1) := by decide +kernel
theorem d163_140 : decode (mB 163) 140 = .ok (.getfield 95, 3) := by decide +kernel
theorem d163_143 : decode (mB 163) 143 = .ok (.iload_n 1, 1) := by decide +kernel
theorem d163_144 : decode (mB 163) 144 = .ok (.iaload, 1) := by decide +kernel
theorem d163_145 : decode (mB 163) 145 = .ok (.iconst 1, 1) := by decide +kernel
theorem d163_146 : decode (mB 163) 146 = .ok (.invokestatic 371, 3) := by decide +kernel
theorem d163_149 : decode (mB 163) 149 = .ok (.invokevirtual 367, 3) := by decide +kernel
theorem d163_152 : decode (mB 163) 152 = .ok (.goto 37, 3) := by decide +kernel
theorem d163_155 : decode (mB 163) 155 = .ok (.aload_n 0, 1) := by decide +kernel
theorem d163_156 : decode (mB 163) 156 = .ok (.getfield 33, 3) := by decide +kernel
theorem d163_159 : decode (mB 163) 159 = .ok (.iload_n 3, 1) := by decide +kernel
theorem d163_160 : decode (mB 163) 160 = .ok (.iaload, 1) := by decide +kernel
theorem d163_161 : decode (mB 163) 161 = .ok (.bipush 15, 2) := by decide +kernel
theorem d163_163 : decode (mB 163) 163 = .ok (.if_icmp .ne 14, 3) := by decide +kernel
theorem d163_166 : decode (mB 163) 166 = .ok (.aload_n 0, 1) := by decide +kernel
theorem d163_167 : decode (mB 163) 167 = .ok (.getfield 125, 3) := by decide +kernel
theorem d163_170 : decode (mB 163) 170 = .ok (.iload_n 2, 1) := by decide +kernel
theorem d163_171 : decode (mB 163) 171 = .ok (.iaload, 1) := by decide +kernel
theorem d163_172 : decode (mB 163) 172 = .ok (.ifCond .le 5, 3) := by decide +kernel
theorem d163_175 : decode (mB 163) 175 = .ok (.iconst 1, 1) := by decide +kernel
theorem d163_176 : decode (mB 163) 176 = .ok (.ireturn, 1) := by decide +kernel
theorem d163_177 : decode (mB 163) 177 = .ok (.aload_n 0, 1) := by decide +kernel
theorem d163_178 : decode (mB 163) 178 = .ok (.getfield 92, 3) := by decide +kernel
theorem d163_181 : decode (mB 163) 181 = .ok (.iload_n 1, 1) := by decide +kernel
theorem d163_182 : decode (mB 163) 182 = .ok (.aload_n 0, 1) := by decide +kernel
theorem d163_183 : decode (mB 163) 183 = .ok (.getfield 36, 3) := by decide +kernel
theorem d163_186 : decode (mB 163) 186 = .ok (.iload_n 3, 1) := by decide +kernel
theorem d163_187 : decode (mB 163) 187 = .ok (.iaload, 1) := by decide +kernel
theorem d163_188 : decode (mB 163) 188 = .ok (.iastore, 1) := by decide +kernel
theorem d163_189 : decode (mB 163) 189 = .ok (.goto (-189), 3) := by decide +kernel
theorem d163_192 : decode (mB 163) 192 = .ok (.iconst 0, 1) := by decide +kernel
theorem d163_193 : decode (mB 163) 193 = .ok (.ireturn, 1) := by decide +kernel
theorem d169_0 : decode (mB 169) 0 = .ok (.aload_n 0, 1) := by decide +kernel
theorem d169_1 : decode (mB 169) 1 = .ok (.getfield 149, 3) := by decide +kernel
theorem d169_4 : decode (mB 169) 4 = .ok (.iload_n 1, 1) := by decide +kernel
theorem d169_5 : decode (mB 169) 5 = .ok (.iaload, 1) := by decide +kernel
theorem d169_6 : decode (mB 169) 6 = .ok (.ifCond .le 26, 3) := by decide +kernel
theorem d169_9 : decode (mB 169) 9 = .ok (.aload_n 0, 1) := by decide +kernel
theorem d169_10 : decode (mB 169) 10 = .ok (.aload_n 0, 1) := by decide +kernel
theorem d169_11 : decode (mB 169) 11 = .ok (.getfield 152, 3) := by decide +kernel
theorem d169_14 : decode (mB 169) 14 = .ok (.iload_n 1, 1) := by decide +kernel
theorem d169_15 : decode (mB 169) 15 = .ok (.iaload, 1) := by decide +kernel
theorem d169_16 : decode (mB 169) 16 = .ok (.aload_n 0, 1) := by decide +kernel
theorem d169_17 : decode (mB 169) 17 = .ok (.getfield 149, 3) := by decide +kernel
theorem d169_20 : decode (mB 169) 20 = .ok (.iload_n 1, 1) := by decide +kernel
theorem d169_21 : decode (mB 169) 21 = .ok (.iaload, 1) := by decide +kernel
theorem d169_22 : decode (mB 169) 22 = .ok (.invokevirtual 375, 3) := by decide +kernel
theorem d169_25 : decode (mB 169) 25 = .ok (.aload_n 0, 1) := by decide +kernel
theorem d169_26 : decode (mB 169) 26 = .ok (.getfield 149, 3) := by decide +kernel
theorem d169_29 : decode (mB 169) 29 = .ok (.iload_n 1, 1) := by decide +kernel
theorem d169_30 : decode (mB 169) 30 = .ok (.iconst 0, 1) := by decide +kernel
theorem d169_31 : decode (mB 169) 31 = .ok (.iastore, 1) := by decide +kernel
theorem d169_32 : decode (mB 169) 32 = .ok (.aload_n 0, 1) := by decide +kernel
theorem d169_33 : decode (mB 169) 33 = .ok (.getfield 107, 3) := by decide +kernel
theorem d169_36 : decode (mB 169) 36 = .ok (.iload_n 1, 1) := by decide +kernel
theorem d169_37 : decode (mB 169) 37 = .ok (.iaload, 1) := by decide +kernel
theorem d169_38 : decode (mB 169) 38 = .ok (.ifCond .le 262, 3) := by decide +kernel
theorem d169_41 : decode (mB 169) 41 = .ok (.aload_n 0, 1) := by decide +kernel
theorem d169_42 : decode (mB 169) 42 = .ok (.getfield 107, 3) := by decide +kernel
theorem d169_45 : decode (mB 169) 45 = .ok (.iload_n 1, 1) := by decide +kernel
theorem d169_46 : decode (mB 169) 46 = .ok (.iaload, 1) := by decide +kernel
theorem d169_47 : decode (mB 169) 47 = .ok (.iconst 1, 1) := by decide +kernel
theorem d169_48 : decode (mB 169) 48 = .ok (.isub, 1) := by decide +kernel
theorem d169_49 : decode (mB 169) 49 = .ok (.istore 6, 2) := by decide +kernel
theorem d169_51 : decode (mB 169) 51 = .ok (.bipush 9, 2) := by decide +kernel
theorem d169_53 : decode (mB 169) 53 = .ok (.iload_n 1, 1) := by decide +kernel
theorem d169_54 : decode (mB 169) 54 = .ok (.imul, 1) := by decide +kernel
theorem d169_55 : decode (mB 169) 55 = .ok (.iload 6, 2) := by decide +kernel
theorem d169_57 : decode (mB 169) 57 = .ok (.iadd, 1) := by decide +kernel
theorem d169_58 : decode (mB 169) 58 = .ok (.istore 7, 2) := by decide +kernel
theorem d169_60 : decode (mB 169) 60 = .ok (.aload_n 0, 1) := by decide +kernel
theorem d169_61 : decode (mB 169) 61 = .ok (.getfield 110, 3) := by decide +kernel
theorem d169_64 : decode (mB 169) 64 = .ok (.iload 7, 2) := by decide +kernel
theorem d169_66 : decode (mB 169) 66 = .ok (.iaload, 1) := by decide +kernel
theorem d169_67 : decode (mB 169) 67 = .ok (.istore 8, 2) := by decide +kernel
theorem d169_69 : decode (mB 169) 69 = .ok (.aload_n 0, 1) := by decide +kernel
theorem d169_70 : decode (mB 169) 70 = .ok (.getfield 113, 3) := by decide +kernel
theorem d169_73 : decode (mB 169) 73 = .ok (.iload 7, 2) := by decide +kernel
theorem d169_75 : decode (mB 169) 75 = .ok (.iaload, 1) := by decide +kernel
theorem d169_76 : decode (mB 169) 76 = .ok (.istore 9, 2) := by decide +kernel
theorem d169_78 : decode (mB 169) 78 = .ok (.aload_n 0, 1) := by decide +kernel
theorem d169_79 : decode (mB 169) 79 = .ok (.iload_n 1, 1) := by decide +kernel
theorem d169_80 : decode (mB 169) 80 = .ok (.invokevirtual 361, 3) := by decide +kernel
theorem d169_83 : decode (mB 169) 83 = .ok (.aload_n 0, 1) := by decide +kernel
theorem d169_84 : decode (mB 169) 84 = .ok (.getfield 33, 3) := by decide +kernel
theorem d169_87 : decode (mB 169) 87 = .ok (.iload 8, 2) := by decide +kernel
theorem d169_89 : decode (mB 169) 89 = .ok (.iaload, 1) := by decide +kernel
theorem d169_90 : decode (mB 169) 90 = .ok (.bipush 13, 2) := by decide +kernel
theorem d169_92 : decode (mB 169) 92 = .ok (.if_icmp .ne 53, 3) := by decide +kernel
theorem d169_95 : decode (mB 169) 95 = .ok (.iload 9, 2) := by decide +kernel
theorem d169_97 : decode (mB 169) 97 = .ok (.ifCond .ne 48, 3) := by decide +kernel
theorem d169_100 : decode (mB 169) 100 = .ok (.iload_n 2, 1) := by decide +kernel
theorem d169_101 : decode (mB 169) 101 = .ok (.ifCond .ne 44, 3) := by decide +kernel
theorem d169_104 : decode (mB 169) 104 = .ok (.aload_n 0, 1) := by decide +kernel
theorem d169_105 : decode (mB 169) 105 = .ok (.getfield 104, 3) := by decide +kernel
theorem d169_108 : decode (mB 169) 108 = .ok (.bipush 10, 2) := by decide +kernel
theorem d169_110 : decode (mB 169) 110 = .ok (.iload_n 1, 1) := by decide +kernel
theorem d169_111 : decode (mB 169) 111 = .ok (.imul, 1) := by decide +kernel
theorem d169_112 : decode (mB 169) 112 = .ok (.aload_n 0, 1) := by decide +kernel
theorem d169_113 : decode (mB 169) 113 = .ok (.getfield 49, 3) := by decide +kernel
theorem d169_116 : decode (mB 169) 116 = .ok (.iload 8, 2) := by decide +kernel
theorem d169_118 : decode (mB 169) 118 = .ok (.iaload, 1) := by decide +kernel
theorem d169_119 : decode (mB 169) 119 = .ok (.iadd, 1) := by decide +kernel
theorem d169_120 : decode (mB 169) 120 = .ok (.bipush 16, 2) := by decide +kernel
theorem d169_122 : decode (mB 169) 122 = .ok (.isub, 1) := by decide +kernel
theorem d169_123 : decode (mB 169) 123 = .ok (.lload_n 3, 1) := by decide +kernel
theorem d169_124 : decode (mB 169) 124 = .ok (.lastore, 1) := by decide +kernel
theorem d169_125 : decode (mB 169) 125 = .ok (.aload_n 0, 1) := by decide +kernel
theorem d169_126 : decode (mB 169) 126 = .ok (.iload_n 1, 1) := by decide +kernel
theorem d169_127 : decode (mB 169) 127 = .ok (.iload 8, 2) := by decide +kernel
theorem d169_129 : decode (mB 169) 129 = .ok (.iconst 1, 1) := by decide +kernel
theorem d169_130 : decode (mB 169) 130 = .ok (.aload_n 0, 1) := by decide +kernel
theorem d169_131 : decode (mB 169) 131 = .ok (.getfield 95, 3) := by decide +kernel
theorem d169_134 : decode (mB 169) 134 = .ok (.iload_n 1, 1) := by decide +kernel
theorem d169_135 : decode (mB 169) 135 = .ok (.iaload, 1) := by decide +kernel
theorem d169_136 : decode (mB 169) 136 = .ok (.iconst 1, 1) := by decide +kernel
theorem d169_137 : decode (mB 169) 137 = .ok (.invokestatic 371, 3) := by decide +kernel
theorem d169_140 : decode (mB 169) 140 = .ok (.invokevirtual 367, 3) := by decide +kernel
theorem d169_143 : decode (mB 169) 143 = .ok (.iconst 1, 1) := by decide +kernel
theorem d169_144 : decode (mB 169) 144 = .ok (.ireturn, 1) := by decide +kernel
theorem d169_145 : decode (mB 169) 145 = .ok (.aload_n 0, 1) := by decide +kernel
theorem d169_146 : decode (mB 169) 146 = .ok (.getfield 33, 3) := by decide +kernel
theorem d169_149 : decode (mB 169) 149 = .ok (.iload 8, 2) := by decide +kernel
theorem d169_151 : decode (mB 169) 151 = .ok (.iaload, 1) := by decide +kernel
theorem d169_152 : decode (mB 169) 152 = .ok (.bipush 15, 2) := by decide +kernel
theorem d169_154 : decode (mB 169) 154 = .ok (.if_icmp .ne 69, 3) := by decide +kernel
theorem d169_157 : decode (mB 169) 157 = .ok (.iload 9, 2) := by decide +kernel
theorem d169_159 : decode (mB 169) 159 = .ok (.iconst 1, 1) := by decide +kernel
theorem d169_160 : decode (mB 169) 160 = .ok (.if_icmp .ne 63, 3) := by decide +kernel
theorem d169_163 : decode (mB 169) 163 = .ok (.aload_n 0, 1) := by decide +kernel
theorem d169_164 : decode (mB 169) 164 = .ok (.iconst 3, 1) := by decide +kernel
theorem d169_165 : decode (mB 169) 165 = .ok (.iload_n 1, 1) := by decide +kernel
theorem d169_166 : decode (mB 169) 166 = .ok (.lconst 0, 1) := by decide +kernel
theorem d169_167 : decode (mB 169) 167 = .ok (.invokevirtual 364, 3) := by decide +kernel
theorem d169_170 : decode (mB 169) 170 = .ok (.aload_n 0, 1) := by decide +kernel
theorem d169_171 : decode (mB 169) 171 = .ok (.iload_n 1, 1) := by decide +kernel
theorem d169_172 : decode (mB 169) 172 = .ok (.iload 8, 2) := by decide +kernel
theorem d169_174 : decode (mB 169) 174 = .ok (.iconst 2, 1) := by decide +kernel
theorem d169_175 : decode (mB 169) 175 = .ok (.aload_n 0, 1) := by decide +kernel
theorem d169_176 : decode (mB 169) 176 = .ok (.getfield 95, 3) := by decide +kernel
theorem d169_179 : decode (mB 169) 179 = .ok (.iload_n 1, 1) := by decide +kernel
theorem d169_180 : decode (mB 169) 180 = .ok (.iaload, 1) := by decide +kernel
theorem d169_181 : decode (mB 169) 181 = .ok (.iconst 1, 1) := by decide +kernel
theorem d169_182 : decode (mB 169) 182 = .ok (.invokestatic 371, 3) := by decide +kernel
theorem d169_185 : decode (mB 169) 185 = .ok (.invokevirtual 367, 3) := by decide +kernel
theorem d169_188 : decode (mB 169) 188 = .ok (.aload_n 0, 1) := by decide +kernel
theorem d169_189 : decode (mB 169) 189 = .ok (.getfield 125, 3) := by decide +kernel
theorem d169_192 : decode (mB 169) 192 = .ok (.iload 7, 2) := by decide +kernel
theorem d169_194 : decode (mB 169) 194 = .ok (.iload_n 2, 1) := by decide +kernel
theorem d169_195 : decode (mB 169) 195 = .ok (.ifCond .eq 7, 3) := by decide +kernel
theorem d169_198 : decode (mB 169) 198 = .ok (.iconst 2, 1) := by decide +kernel
theorem d169_199 : decode (mB 169) 199 = .ok (.goto 4, 3) := by decide +kernel
theorem d169_202 : decode (mB 169) 202 = .ok (.iconst 1, 1) := by decide +kernel
theorem d169_203 : decode (mB 169) 203 = .ok (.iastore, 1) := by decide +kernel
theorem d169_204 : decode (mB 169) 204 = .ok (.aload_n 0, 1) := by decide +kernel
theorem d169_205 : decode (mB 169) 205 = .ok (.getfield 128, 3) := by decide +kernel
theorem d169_208 : decode (mB 169) 208 = .ok (.iload 7, 2) := by decide +kernel
theorem d169_210 : decode (mB 169) 210 = .ok (.lload_n 3, 1) := by decide +kernel
theorem d169_211 : decode (mB 169) 211 = .ok (.lastore, 1) := by decide +kernel
theorem d169_212 : decode (mB 169) 212 = .ok (.aload_n 0, 1) := by decide +kernel
theorem d169_213 : decode (mB 169) 213 = .ok (.getfield 131, 3) := by decide +kernel
theorem d169_216 : decode (mB 169) 216 = .ok (.iload 7, 2) := by decide +kernel
theorem d169_218 : decode (mB 169) 218 = .ok (.iload 5, 2) := by decide +kernel
theorem d169_220 : decode (mB 169) 220 = .ok (.iastore, 1) := by decide +kernel
theorem d169_221 : decode (mB 169) 221 = .ok (.iconst 1, 1) := by decide +kernel
theorem d169_222 : decode (mB 169) 222 = .ok (.ireturn, 1) := by decide +kernel
theorem d169_223 : decode (mB 169) 223 = .ok (.aload_n 0, 1) := by decide +kernel
theorem d169_224 : decode (mB 169) 224 = .ok (.getfield 33, 3) := by decide +kernel
theorem d169_227 : decode (mB 169) 227 = .ok (.iload 8, 2) := by decide +kernel
theorem d169_229 : decode (mB 169) 229 = .ok (.iaload, 1) := by decide +kernel
theorem d169_230 : decode (mB 169) 230 = .ok (.bipush 18, 2) := by decide +kernel
theorem d169_232 : decode (mB 169) 232 = .ok (.if_icmp .ne 65, 3) := by decide +kernel
theorem d169_235 : decode (mB 169) 235 = .ok (.iload 9, 2) := by decide +kernel
theorem d169_237 : decode (mB 169) 237 = .ok (.ifCond .ne 60, 3) := by decide +kernel
theorem d169_240 : decode (mB 169) 240 = .ok (.iload_n 2, 1) := by decide +kernel
theorem d169_241 : decode (mB 169) 241 = .ok (.ifCond .eq 56, 3) := by decide +kernel
theorem d169_244 : decode (mB 169) 244 = .ok (.iload 5, 2) := by decide +kernel
theorem d169_246 : decode (mB 169) 246 = .ok (.iload 6, 2) := by decide +kernel
theorem d169_248 : decode (mB 169) 248 = .ok (.if_icmp .ne 49, 3) := by decide +kernel
theorem d169_251 : decode (mB 169) 251 = .ok (.aload_n 0, 1) := by decide +kernel
theorem d169_252 : decode (mB 169) 252 = .ok (.getfield 45, 3) := by decide +kernel
theorem d169_255 : decode (mB 169) 255 = .ok (.iconst 3, 1) := by decide +kernel
theorem d169_256 : decode (mB 169) 256 = .ok (.iload 8, 2) := by decide +kernel
theorem d169_258 : decode (mB 169) 258 = .ok (.imul, 1) := by decide +kernel
theorem d169_259 : decode (mB 169) 259 = .ok (.iconst 1, 1) := by decide +kernel
theorem d169_260 : decode (mB 169) 260 = .ok (.iadd, 1) := by decide +kernel
theorem d169_261 : decode (mB 169) 261 = .ok (.baload, 1) := by decide +kernel
theorem d169_262 : decode (mB 169) 262 = .ok (.ifCond .eq 20, 3) := by decide +kernel
theorem d169_265 : decode (mB 169) 265 = .ok (.aload_n 0, 1) := by decide +kernel
theorem d169_266 : decode (mB 169) 266 = .ok (.iload_n 1, 1) := by decide +kernel
theorem d169_267 : decode (mB 169) 267 = .ok (.iload 8, 2) := by decide +kernel
theorem d169_269 : decode (mB 169) 269 = .ok (.iconst 1, 1) := by decide +kernel
theorem d169_270 : decode (mB 169) 270 = .ok (.aload_n 0, 1) := by decide +kernel
theorem d169_271 : decode (mB 169) 271 = .ok (.getfield 95, 3) := by decide +kernel
theorem d169_274 : decode (mB 169) 274 = .ok (.iload_n 1, 1) := by decide +kernel
theorem d169_275 : decode (mB 169) 275 = .ok (.iaload, 1) := by decide +kernel
theorem d169_276 : decode (mB 169) 276 = .ok (.invokevirtual 367, 3) := by decide +kernel
theorem d169_279 : decode (mB 169) 279 = .ok (.goto 16, 3) := by decide +kernel
theorem d169_282 : decode (mB 169) 282 = .ok (.aload_n 0, 1) := by decide +kernel
theorem d169_283 : decode (mB 169) 283 = .ok (.getfield 92, 3) := by decide +kernel
theorem d169_286 : decode (mB 169) 286 = .ok (.iload_n 1, 1) := by decide +kernel
theorem d169_287 : decode (mB 169) 287 = .ok (.aload_n 0, 1) := by decide +kernel
theorem d169_288 : decode (mB 169) 288 = .ok (.getfield 36, 3) := by decide +kernel
theorem d169_291 : decode (mB 169) 291 = .ok (.iload 8, 2) := by decide +kernel
theorem d169_293 : decode (mB 169) 293 = .ok (.iaload, 1) := by decide +kernel
theorem d169_294 : decode (mB 169) 294 = .ok (.iastore, 1) := by decide +kernel
theorem d169_295 : decode (mB 169) 295 = .ok (.iconst 1, 1) := by decide +kernel
theorem d169_296 : decode (mB 169) 296 = .ok (.ireturn, 1) := by decide +kernel
theorem d169_297 : decode (mB 169) 297 = .ok (.goto (-265), 3) := by decide +kernel
theorem d169_300 : decode (mB 169) 300 = .ok (.aload_n 0, 1) := by decide +kernel
theorem d169_301 : decode (mB 169) 301 = .ok (.getfield 89, 3) := by decide +kernel
theorem d169_304 : decode (mB 169) 304 = .ok (.iload_n 1, 1) := by decide +kernel
theorem d169_305 : decode (mB 169) 305 = .ok (.iconst 3, 1) := by decide +kernel
theorem d169_306 : decode (mB 169) 306 = .ok (.iastore, 1) := by decide +kernel
theorem d169_307 : decode (mB 169) 307 = .ok (.aload_n 0, 1) := by decide +kernel
theorem d169_308 : decode (mB 169) 308 = .ok (.getfield 134, 3) := by decide +kernel
theorem d169_311 : decode (mB 169) 311 = .ok (.iload_n 1, 1) := by decide +kernel
theorem d169_312 : decode (mB 169) 312 = .ok (.iconst 0, 1) := by decide +kernel
theorem d169_313 : decode (mB 169) 313 = .ok (.iastore, 1) := by decide +kernel
theorem d169_314 : decode (mB 169) 314 = .ok (.aload_n 0, 1) := by decide +kernel
theorem d169_315 : decode (mB 169) 315 = .ok (.getfield 101, 3) := by decide +kernel
theorem d169_318 : decode (mB 169) 318 = .ok (.iload_n 1, 1) := by decide +kernel
theorem d169_319 : decode (mB 169) 319 = .ok (.lload_n 3, 1) := by decide +kernel
theorem d169_320 : decode (mB 169) 320 = .ok (.lastore, 1) := by decide +kernel
theorem d169_321 : decode (mB 169) 321 = .ok (.aload_n 0, 1) := by decide +kernel
theorem d169_322 : decode (mB 169) 322 = .ok (.iconst 5, 1) := by decide +kernel
theorem d169_323 : decode (mB 169) 323 = .ok (.iload_n 1, 1) := by decide +kernel
theorem d169_324 : decode (mB 169) 324 = .ok (.lload_n 3, 1) := by decide +kernel
theorem d169_325 : decode (mB 169) 325 = .ok (.invokevirtual 364, 3) := by decide +kernel
theorem d169_328 : decode (mB 169) 328 = .ok (.iconst 0, 1) := by decide +kernel
theorem d169_329 : decode (mB 169) 329 = .ok (.ireturn, 1) := by decide +kernel
theorem d171_0 : decode (mB 171) 0 = .ok (.iload_n 1, 1) := by decide +kernel
theorem d171_1 : decode (mB 171) 1 = .ok (.ifCond .eq 7, 3) := by decide +kernel
theorem d171_4 : decode (mB 171) 4 = .ok (.iconst 1, 1) := by decide +kernel
theorem d171_5 : decode (mB 171) 5 = .ok (.goto 4, 3) := by decide +kernel
theorem d171_8 : decode (mB 171) 8 = .ok (.iconst 3, 1) := by decide +kernel
theorem d171_9 : decode (mB 171) 9 = .ok (.ireturn, 1) := by decide +kernel
theorem d172_0 : decode (mB 172) 0 = .ok (.bipush 32, 2) := by decide +kernel
theorem d172_2 : decode (mB 172) 2 = .ok (.iload_n 1, 1) := by decide +kernel
theorem d172_3 : decode (mB 172) 3 = .ok (.imul, 1) := by decide +kernel
theorem d172_4 : decode (mB 172) 4 = .ok (.istore_n 2, 1) := by decide +kernel
theorem d172_5 : decode (mB 172) 5 = .ok (.aload_n 0, 1) := by decide +kernel
theorem d172_6 : decode (mB 172) 6 = .ok (.getfield 137, 3) := by decide +kernel
theorem d172_9 : decode (mB 172) 9 = .ok (.iload_n 2, 1) := by decide +kernel
theorem d172_10 : decode (mB 172) 10 = .ok (.iaload, 1) := by decide +kernel
theorem d172_11 : decode (mB 172) 11 = .ok (.bipush 7, 2) := by decide +kernel
theorem d172_13 : decode (mB 172) 13 = .ok (.if_icmp .ne 7, 3) := by decide +kernel
theorem d172_16 : decode (mB 172) 16 = .ok (.iconst 1, 1) := by decide +kernel
theorem d172_17 : decode (mB 172) 17 = .ok (.goto 4, 3) := by decide +kernel
theorem d172_20 : decode (mB 172) 20 = .ok (.iconst 0, 1) := by decide +kernel
theorem d172_21 : decode (mB 172) 21 = .ok (.istore_n 3, 1) := by decide +kernel
theorem d172_22 : decode (mB 172) 22 = .ok (.aload_n 0, 1) := by decide +kernel
theorem d172_23 : decode (mB 172) 23 = .ok (.getfield 140, 3) := by decide +kernel
theorem d172_26 : decode (mB 172) 26 = .ok (.iload_n 2, 1) := by decide +kernel
theorem d172_27 : decode (mB 172) 27 = .ok (.laload, 1) := by decide +kernel
theorem d172_28 : decode (mB 172) 28 = .ok (.lstore 4, 2) := by decide +kernel
theorem d172_30 : decode (mB 172) 30 = .ok (.aload_n 0, 1) := by decide +kernel
theorem d172_31 : decode (mB 172) 31 = .ok (.getfield 143, 3) := by decide +kernel
theorem d172_34 : decode (mB 172) 34 = .ok (.iload_n 2, 1) := by decide +kernel
theorem d172_35 : decode (mB 172) 35 = .ok (.iaload, 1) := by decide +kernel
theorem d172_36 : decode (mB 172) 36 = .ok (.istore 6, 2) := by decide +kernel
theorem d172_38 : decode (mB 172) 38 = .ok (.aload_n 0, 1) := by decide +kernel
theorem d172_39 : decode (mB 172) 39 = .ok (.iload_n 1, 1) := by decide +kernel
theorem d172_40 : decode (mB 172) 40 = .ok (.iconst 0, 1) := by decide +kernel
theorem d172_41 : decode (mB 172) 41 = .ok (.invokevirtual 356, 3) := by decide +kernel
theorem d172_44 : decode (mB 172) 44 = .ok (.aload_n 0, 1) := by decide +kernel
theorem d172_45 : decode (mB 172) 45 = .ok (.iconst 1, 1) := by decide +kernel
theorem d172_46 : decode (mB 172) 46 = .ok (.iload_n 1, 1) := by decide +kernel
theorem d172_47 : decode (mB 172) 47 = .ok (.lload 4, 2) := by decide +kernel
theorem d172_49 : decode (mB 172) 49 = .ok (.invokevirtual 364, 3) := by decide +kernel
theorem d172_52 : decode (mB 172) 52 = .ok (.aload_n 0, 1) := by decide +kernel
theorem d172_53 : decode (mB 172) 53 = .ok (.aload_n 0, 1) := by decide +kernel
theorem d172_54 : decode (mB 172) 54 = .ok (.iload_n 1, 1) := by decide +kernel
theorem d172_55 : decode (mB 172) 55 = .ok (.iload_n 3, 1) := by decide +kernel
theorem d172_56 : decode (mB 172) 56 = .ok (.lload 4, 2) := by decide +kernel
theorem d172_58 : decode (mB 172) 58 = .ok (.iload 6, 2) := by decide +kernel
theorem d172_60 : decode (mB 172) 60 = .ok (.invokevirtual 378, 3) := by decide +kernel
theorem d172_63 : decode (mB 172) 63 = .ok (.invokevirtual 382, 3) := by decide +kernel
theorem d172_66 : decode (mB 172) 66 = .ok (.ireturn, 1) := by decide +kernel
theorem d160_0 : decode (mB 160) 0 = .ok (.iconst 0, 1) := by decide +kernel
theorem d160_1 : decode (mB 160) 1 = .ok (.istore_n 1, 1) := by decide +kernel
theorem d160_2 : decode (mB 160) 2 = .ok (.iload_n 1, 1) := by decide +kernel
theorem d160_3 : decode (mB 160) 3 = .ok (.bipush 6, 2) := by decide +kernel
theorem d160_5 : decode (mB 160) 5 = .ok (.if_icmp .ge 96, 3) := by decide +kernel
theorem d160_8 : decode (mB 160) 8 = .ok (.iconst 0, 1) := by decide +kernel
theorem d160_9 : decode (mB 160) 9 = .ok (.istore_n 2, 1) := by decide +kernel
theorem d160_10 : decode (mB 160) 10 = .ok (.iload_n 2, 1) := by decide +kernel
theorem d160_11 : decode (mB 160) 11 = .ok (.aload_n 0, 1) := by decide +kernel
theorem d160_12 : decode (mB 160) 12 = .ok (.getfield 107, 3) := by decide +kernel
theorem d160_15 : decode (mB 160) 15 = .ok (.iload_n 1, 1) := by decide +kernel
theorem d160_16 : decode (mB 160) 16 = .ok (.iaload, 1) := by decide +kernel
theorem d160_17 : decode (mB 160) 17 = .ok (.if_icmp .ge 78, 3) := by decide +kernel
theorem d160_20 : decode (mB 160) 20 = .ok (.aload_n 0, 1) := by decide +kernel
theorem d160_21 : decode (mB 160) 21 = .ok (.getfield 89, 3) := by decide +kernel
theorem d160_24 : decode (mB 160) 24 = .ok (.iload_n 1, 1) := by decide +kernel
theorem d160_25 : decode (mB 160) 25 = .ok (.iaload, 1) := by decide +kernel
theorem d160_26 : decode (mB 160) 26 = .ok (.iconst 1, 1) := by decide +kernel
theorem d160_27 : decode (mB 160) 27 = .ok (.if_icmp .ne 68, 3) := by decide +kernel
theorem d160_30 : decode (mB 160) 30 = .ok (.bipush 9, 2) := by decide +kernel
theorem d160_32 : decode (mB 160) 32 = .ok (.iload_n 1, 1) := by decide +kernel
theorem d160_33 : decode (mB 160) 33 = .ok (.imul, 1) := by decide +kernel
theorem d160_34 : decode (mB 160) 34 = .ok (.iload_n 2, 1) := by decide +kernel
theorem d160_35 : decode (mB 160) 35 = .ok (.iadd, 1) := by decide +kernel
theorem d160_36 : decode (mB 160) 36 = .ok (.istore_n 3, 1) := by decide +kernel
theorem d160_37 : decode (mB 160) 37 = .ok (.aload_n 0, 1) := by decide +kernel
theorem d160_38 : decode (mB 160) 38 = .ok (.getfield 119, 3) := by decide +kernel
theorem d160_41 : decode (mB 160) 41 = .ok (.iload_n 3, 1) := by decide +kernel
theorem d160_42 : decode (mB 160) 42 = .ok (.laload, 1) := by decide +kernel
theorem d160_43 : decode (mB 160) 43 = .ok (.lconst 0, 1) := by decide +kernel
theorem d160_44 : decode (mB 160) 44 = .ok (.lcmp, 1) := by decide +kernel
theorem d160_45 : decode (mB 160) 45 = .ok (.ifCond .lt 44, 3) := by decide +kernel
theorem d160_48 : decode (mB 160) 48 = .ok (.aload_n 0, 1) := by decide +kernel
theorem d160_49 : decode (mB 160) 49 = .ok (.getfield 122, 3) := by decide +kernel
theorem d160_52 : decode (mB 160) 52 = .ok (.iload_n 3, 1) := by decide +kernel
theorem d160_53 : decode (mB 160) 53 = .ok (.baload, 1) := by decide +kernel
theorem d160_54 : decode (mB 160) 54 = .ok (.ifCond .ne 35, 3) := by decide +kernel
theorem d160_57 : decode (mB 160) 57 = .ok (.aload_n 0, 1) := by decide +kernel
theorem d160_58 : decode (mB 160) 58 = .ok (.getfield 353, 3) := by decide +kernel
theorem d160_61 : decode (mB 160) 61 = .ok (.i2l, 1) := by decide +kernel
theorem d160_62 : decode (mB 160) 62 = .ok (.aload_n 0, 1) := by decide +kernel
theorem d160_63 : decode (mB 160) 63 = .ok (.getfield 119, 3) := by decide +kernel
theorem d160_66 : decode (mB 160) 66 = .ok (.iload_n 3, 1) := by decide +kernel
theorem d160_67 : decode (mB 160) 67 = .ok (.laload, 1) := by decide +kernel
theorem d160_68 : decode (mB 160) 68 = .ok (.lcmp, 1) := by decide +kernel
theorem d160_69 : decode (mB 160) 69 = .ok (.ifCond .lt 20, 3) := by decide +kernel
theorem d160_72 : decode (mB 160) 72 = .ok (.aload_n 0, 1) := by decide +kernel
theorem d160_73 : decode (mB 160) 73 = .ok (.getfield 122, 3) := by decide +kernel
theorem d160_76 : decode (mB 160) 76 = .ok (.iload_n 3, 1) := by decide +kernel
theorem d160_77 : decode (mB 160) 77 = .ok (.iconst 1, 1) := by decide +kernel
theorem d160_78 : decode (mB 160) 78 = .ok (.bastore, 1) := by decide +kernel
theorem d160_79 : decode (mB 160) 79 = .ok (.aload_n 0, 1) := by decide +kernel
theorem d160_80 : decode (mB 160) 80 = .ok (.iload_n 1, 1) := by decide +kernel
theorem d160_81 : decode (mB 160) 81 = .ok (.bipush 7, 2) := by decide +kernel
theorem d160_83 : decode (mB 160) 83 = .ok (.lconst 0, 1) := by decide +kernel
theorem d160_84 : decode (mB 160) 84 = .ok (.iload_n 2, 1) := by decide +kernel
theorem d160_85 : decode (mB 160) 85 = .ok (.iconst 0, 1) := by decide +kernel
theorem d160_86 : decode (mB 160) 86 = .ok (.invokevirtual 386, 3) := by decide +kernel
theorem d160_89 : decode (mB 160) 89 = .ok (.iinc 2 1, 3) := by decide +kernel
theorem d160_92 : decode (mB 160) 92 = .ok (.goto (-82), 3) := by decide +kernel
theorem d160_95 : decode (mB 160) 95 = .ok (.iinc 1 1, 3) := by decide +kernel
theorem d160_98 : decode (mB 160) 98 = .ok (.goto (-96), 3) := by decide +kernel
theorem d160_101 : decode (mB 160) 101 = .ok (.return_, 1) := by decide +kernel
theorem d174_0 : decode (mB 174) 0 = .ok (.aload_n 0, 1) := by decide +kernel
theorem d174_1 : decode (mB 174) 1 = .ok (.getfield 95, 3) := by decide +kernel
theorem d174_4 : decode (mB 174) 4 = .ok (.iload_n 1, 1) := by decide +kernel
theorem d174_5 : decode (mB 174) 5 = .ok (.iaload, 1) := by decide +kernel
theorem d174_6 : decode (mB 174) 6 = .ok (.iconst 1, 1) := by decide +kernel
theorem d174_7 : decode (mB 174) 7 = .ok (.if_icmp .ne 20, 3) := by decide +kernel
theorem d174_10 : decode (mB 174) 10 = .ok (.aload_n 0, 1) := by decide +kernel
theorem d174_11 : decode (mB 174) 11 = .ok (.getfield 134, 3) := by decide +kernel
theorem d174_14 : decode (mB 174) 14 = .ok (.iload_n 1, 1) := by decide +kernel
theorem d174_15 : decode (mB 174) 15 = .ok (.iaload, 1) := by decide +kernel
theorem d174_16 : decode (mB 174) 16 = .ok (.ifCond .le 11, 3) := by decide +kernel
theorem d174_19 : decode (mB 174) 19 = .ok (.aload_n 0, 1) := by decide +kernel
theorem d174_20 : decode (mB 174) 20 = .ok (.iload_n 1, 1) := by decide +kernel
theorem d174_21 : decode (mB 174) 21 = .ok (.invokevirtual 390, 3) := by decide +kernel
theorem d174_24 : decode (mB 174) 24 = .ok (.goto 4, 3) := by decide +kernel
theorem d174_27 : decode (mB 174) 27 = .ok (.iconst 4, 1) := by decide +kernel
theorem d174_28 : decode (mB 174) 28 = .ok (.ireturn, 1) := by decide +kernel
theorem d162_0 : decode (mB 162) 0 = .ok (.aload_n 0, 1) := by decide +kernel
theorem d162_1 : decode (mB 162) 1 = .ok (.iload_n 1, 1) := by decide +kernel
theorem d162_2 : decode (mB 162) 2 = .ok (.invokevirtual 393, 3) := by decide +kernel
theorem d162_5 : decode (mB 162) 5 = .ok (.ifCond .eq 52, 3) := by decide +kernel
theorem d162_8 : decode (mB 162) 8 = .ok (.bipush 9, 2) := by decide +kernel
theorem d162_10 : decode (mB 162) 10 = .ok (.iload_n 1, 1) := by decide +kernel
theorem d162_11 : decode (mB 162) 11 = .ok (.imul, 1) := by decide +kernel
theorem d162_12 : decode (mB 162) 12 = .ok (.aload_n 0, 1) := by decide +kernel
theorem d162_13 : decode (mB 162) 13 = .ok (.getfield 107, 3) := by decide +kernel
theorem d162_16 : decode (mB 162) 16 = .ok (.iload_n 1, 1) := by decide +kernel
theorem d162_17 : decode (mB 162) 17 = .ok (.iaload, 1) := by decide +kernel
theorem d162_18 : decode (mB 162) 18 = .ok (.iadd, 1) := by decide +kernel
theorem d162_19 : decode (mB 162) 19 = .ok (.istore_n 2, 1) := by decide +kernel
theorem d162_20 : decode (mB 162) 20 = .ok (.aload_n 0, 1) := by decide +kernel
theorem d162_21 : decode (mB 162) 21 = .ok (.aload_n 0, 1) := by decide +kernel
theorem d162_22 : decode (mB 162) 22 = .ok (.iload_n 1, 1) := by decide +kernel
theorem d162_23 : decode (mB 162) 23 = .ok (.aload_n 0, 1) := by decide +kernel
theorem d162_24 : decode (mB 162) 24 = .ok (.getfield 125, 3) := by decide +kernel
theorem d162_27 : decode (mB 162) 27 = .ok (.iload_n 2, 1) := by decide +kernel
theorem d162_28 : decode (mB 162) 28 = .ok (.iaload, 1) := by decide +kernel
theorem d162_29 : decode (mB 162) 29 = .ok (.iconst 2, 1) := by decide +kernel
theorem d162_30 : decode (mB 162) 30 = .ok (.if_icmp .ne 7, 3) := by decide +kernel
theorem d162_33 : decode (mB 162) 33 = .ok (.iconst 1, 1) := by decide +kernel
theorem d162_34 : decode (mB 162) 34 = .ok (.goto 4, 3) := by decide +kernel
theorem d162_37 : decode (mB 162) 37 = .ok (.iconst 0, 1) := by decide +kernel
theorem d162_38 : decode (mB 162) 38 = .ok (.aload_n 0, 1) := by decide +kernel
theorem d162_39 : decode (mB 162) 39 = .ok (.getfield 128, 3) := by decide +kernel
theorem d162_42 : decode (mB 162) 42 = .ok (.iload_n 2, 1) := by decide +kernel
theorem d162_43 : decode (mB 162) 43 = .ok (.laload, 1) := by decide +kernel
theorem d162_44 : decode (mB 162) 44 = .ok (.aload_n 0, 1) := by decide +kernel
theorem d162_45 : decode (mB 162) 45 = .ok (.getfield 131, 3) := by decide +kernel
theorem d162_48 : decode (mB 162) 48 = .ok (.iload_n 2, 1) := by decide +kernel
theorem d162_49 : decode (mB 162) 49 = .ok (.iaload, 1) := by decide +kernel
theorem d162_50 : decode (mB 162) 50 = .ok (.invokevirtual 378, 3) := by decide +kernel
theorem d162_53 : decode (mB 162) 53 = .ok (.invokevirtual 382, 3) := by decide +kernel
theorem d162_56 : decode (mB 162) 56 = .ok (.ireturn, 1) := by decide +kernel
theorem d162_57 : decode (mB 162) 57 = .ok (.aload_n 0, 1) := by decide +kernel
theorem d162_58 : decode (mB 162) 58 = .ok (.getfield 95, 3) := by decide +kernel
theorem d162_61 : decode (mB 162) 61 = .ok (.iload_n 1, 1) := by decide +kernel
theorem d162_62 : decode (mB 162) 62 = .ok (.iaload, 1) := by decide +kernel
theorem d162_63 : decode (mB 162) 63 = .ok (.ifCond .ne 18, 3) := by decide +kernel
theorem d162_66 : decode (mB 162) 66 = .ok (.aload_n 0, 1) := by decide +kernel
theorem d162_67 : decode (mB 162) 67 = .ok (.getfield 134, 3) := by decide +kernel
theorem d162_70 : decode (mB 162) 70 = .ok (.iload_n 1, 1) := by decide +kernel
theorem d162_71 : decode (mB 162) 71 = .ok (.iaload, 1) := by decide +kernel
theorem d162_72 : decode (mB 162) 72 = .ok (.ifCond .le 9, 3) := by decide +kernel
theorem d162_75 : decode (mB 162) 75 = .ok (.aload_n 0, 1) := by decide +kernel
theorem d162_76 : decode (mB 162) 76 = .ok (.iload_n 1, 1) := by decide +kernel
theorem d162_77 : decode (mB 162) 77 = .ok (.invokevirtual 390, 3) := by decide +kernel
theorem d162_80 : decode (mB 162) 80 = .ok (.ireturn, 1) := by decide +kernel
theorem d162_81 : decode (mB 162) 81 = .ok (.aload_n 0, 1) := by decide +kernel
theorem d162_82 : decode (mB 162) 82 = .ok (.getfield 92, 3) := by decide +kernel
theorem d162_85 : decode (mB 162) 85 = .ok (.iload_n 1, 1) := by decide +kernel
theorem d162_86 : decode (mB 162) 86 = .ok (.iaload, 1) := by decide +kernel
theorem d162_87 : decode (mB 162) 87 = .ok (.istore_n 2, 1) := by decide +kernel
theorem d162_88 : decode (mB 162) 88 = .ok (.iload_n 2, 1) := by decide +kernel
theorem d162_89 : decode (mB 162) 89 = .ok (.ifCond .ge 26, 3) := by decide +kernel
theorem d162_92 : decode (mB 162) 92 = .ok (.aload_n 0, 1) := by decide +kernel
theorem d162_93 : decode (mB 162) 93 = .ok (.getfield 89, 3) := by decide +kernel
theorem d162_96 : decode (mB 162) 96 = .ok (.iload_n 1, 1) := by decide +kernel
theorem d162_97 : decode (mB 162) 97 = .ok (.iconst 2, 1) := by decide +kernel
theorem d162_98 : decode (mB 162) 98 = .ok (.iastore, 1) := by decide +kernel
theorem d162_99 : decode (mB 162) 99 = .ok (.aload_n 0, 1) := by decide +kernel
theorem d162_100 : decode (mB 162) 100 = .ok (.getfield 134, 3) := by decide +kernel
theorem d162_103 : decode (mB 162) 103 = .ok (.iload_n 1, 1) := by decide +kernel
theorem d162_104 : decode (mB 162) 104 = .ok (.iconst 0, 1) := by decide +kernel
theorem d162_105 : decode (mB 162) 105 = .ok (.iastore, 1) := by decide +kernel
theorem d162_106 : decode (mB 162) 106 = .ok (.aload_n 0, 1) := by decide +kernel
theorem d162_107 : decode (mB 162) 107 = .ok (.iconst 4, 1) := by decide +kernel
theorem d162_108 : decode (mB 162) 108 = .ok (.iload_n 1, 1) := by decide +kernel
theorem d162_109 : decode (mB 162) 109 = .ok (.lconst 0, 1) := by decide +kernel
theorem d162_110 : decode (mB 162) 110 = .ok (.invokevirtual 364, 3) := by decide +kernel
theorem d162_113 : decode (mB 162) 113 = .ok (.iconst 2, 1) := by decide +kernel
theorem d162_114 : decode (mB 162) 114 = .ok (.ireturn, 1) := by decide +kernel
theorem d162_115 : decode (mB 162) 115 = .ok (.aload_n 0, 1) := by decide +kernel
theorem d162_116 : decode (mB 162) 116 = .ok (.getfield 95, 3) := by decide +kernel
theorem d162_119 : decode (mB 162) 119 = .ok (.iload_n 1, 1) := by decide +kernel
theorem d162_120 : decode (mB 162) 120 = .ok (.iaload, 1) := by decide +kernel
theorem d162_121 : decode (mB 162) 121 = .ok (.istore_n 3, 1) := by decide +kernel
theorem d162_122 : decode (mB 162) 122 = .ok (.aload_n 0, 1) := by decide +kernel
theorem d162_123 : decode (mB 162) 123 = .ok (.getfield 33, 3) := by decide +kernel
theorem d162_126 : decode (mB 162) 126 = .ok (.iload_n 2, 1) := by decide +kernel
theorem d162_127 : decode (mB 162) 127 = .ok (.iaload, 1) := by decide +kernel
theorem d162_128 : decode (mB 162) 128 = .ok (.tableswitch 518 0 30 #[173, 193, 518, 241, 267, 518, 332, 518, 389, 412, 470, 484, 494, 518, 518, 504, 518, 518, 518, 518, 518, 518, 518, 518, 518, 518, 518, 518, 518, 518, 140], 140) := by decide +kernel
theorem d162_268 : decode (mB 162) 268 = .ok (.aload_n 0, 1) := by decide +kernel
theorem d162_269 : decode (mB 162) 269 = .ok (.getfield 104, 3) := by decide +kernel
theorem d162_272 : decode (mB 162) 272 = .ok (.bipush 10, 2) := by decide +kernel
theorem d162_274 : decode (mB 162) 274 = .ok (.iload_n 1, 1) := by decide +kernel
theorem d162_275 : decode (mB 162) 275 = .ok (.imul, 1) := by decide +kernel
theorem d162_276 : decode (mB 162) 276 = .ok (.aload_n 0, 1) := by decide +kernel
theorem d162_277 : decode (mB 162) 277 = .ok (.getfield 49, 3) := by decide +kernel
theorem d162_280 : decode (mB 162) 280 = .ok (.iload_n 2, 1) := by decide +kernel
theorem d162_281 : decode (mB 162) 281 = .ok (.iaload, 1) := by decide +kernel
theorem d162_282 : decode (mB 162) 282 = .ok (.iadd, 1) := by decide +kernel
theorem d162_283 : decode (mB 162) 283 = .ok (.bipush 16, 2) := by decide +kernel
theorem d162_285 : decode (mB 162) 285 = .ok (.isub, 1) := by decide +kernel
theorem d162_286 : decode (mB 162) 286 = .ok (.aload_n 0, 1) := by decide +kernel
theorem d162_287 : decode (mB 162) 287 = .ok (.iload_n 1, 1) := by decide +kernel
theorem d162_288 : decode (mB 162) 288 = .ok (.aload_n 0, 1) := by decide +kernel
theorem d162_289 : decode (mB 162) 289 = .ok (.getfield 39, 3) := by decide +kernel
theorem d162_292 : decode (mB 162) 292 = .ok (.iload_n 2, 1) := by decide +kernel
theorem d162_293 : decode (mB 162) 293 = .ok (.iaload, 1) := by decide +kernel
theorem d162_294 : decode (mB 162) 294 = .ok (.invokevirtual 396, 3) := by decide +kernel
theorem d162_297 : decode (mB 162) 297 = .ok (.lastore, 1) := by decide +kernel
theorem d162_298 : decode (mB 162) 298 = .ok (.goto 358, 3) := by decide +kernel
theorem d162_301 : decode (mB 162) 301 = .ok (.aload_n 0, 1) := by decide +kernel
theorem d162_302 : decode (mB 162) 302 = .ok (.iconst 0, 1) := by decide +kernel
theorem d162_303 : decode (mB 162) 303 = .ok (.iload_n 1, 1) := by decide +kernel
theorem d162_304 : decode (mB 162) 304 = .ok (.aload_n 0, 1) := by decide +kernel
theorem d162_305 : decode (mB 162) 305 = .ok (.iload_n 1, 1) := by decide +kernel
theorem d162_306 : decode (mB 162) 306 = .ok (.aload_n 0, 1) := by decide +kernel
theorem d162_307 : decode (mB 162) 307 = .ok (.getfield 39, 3) := by decide +kernel
theorem d162_310 : decode (mB 162) 310 = .ok (.iload_n 2, 1) := by decide +kernel
theorem d162_311 : decode (mB 162) 311 = .ok (.iaload, 1) := by decide +kernel
theorem d162_312 : decode (mB 162) 312 = .ok (.invokevirtual 396, 3) := by decide +kernel
theorem d162_315 : decode (mB 162) 315 = .ok (.invokevirtual 364, 3) := by decide +kernel
theorem d162_318 : decode (mB 162) 318 = .ok (.goto 338, 3) := by decide +kernel
theorem d162_321 : decode (mB 162) 321 = .ok (.aload_n 0, 1) := by decide +kernel
theorem d162_322 : decode (mB 162) 322 = .ok (.iload_n 1, 1) := by decide +kernel
theorem d162_323 : decode (mB 162) 323 = .ok (.aload_n 0, 1) := by decide +kernel
theorem d162_324 : decode (mB 162) 324 = .ok (.getfield 39, 3) := by decide +kernel
theorem d162_327 : decode (mB 162) 327 = .ok (.iload_n 2, 1) := by decide +kernel
theorem d162_328 : decode (mB 162) 328 = .ok (.iaload, 1) := by decide +kernel
theorem d162_329 : decode (mB 162) 329 = .ok (.invokevirtual 396, 3) := by decide +kernel
theorem d162_332 : decode (mB 162) 332 = .ok (.lconst 0, 1) := by decide +kernel
theorem d162_333 : decode (mB 162) 333 = .ok (.lcmp, 1) := by decide +kernel
theorem d162_334 : decode (mB 162) 334 = .ok (.ifCond .eq 7, 3) := by decide +kernel
theorem d162_337 : decode (mB 162) 337 = .ok (.iconst 0, 1) := by decide +kernel
theorem d162_338 : decode (mB 162) 338 = .ok (.goto 4, 3) := by decide +kernel
theorem d162_341 : decode (mB 162) 341 = .ok (.iconst 1, 1) := by decide +kernel
theorem d162_342 : decode (mB 162) 342 = .ok (.istore 4, 2) := by decide +kernel
theorem d162_344 : decode (mB 162) 344 = .ok (.aload_n 0, 1) := by decide +kernel
theorem d162_345 : decode (mB 162) 345 = .ok (.getfield 45, 3) := by decide +kernel
theorem d162_348 : decode (mB 162) 348 = .ok (.iconst 3, 1) := by decide +kernel
theorem d162_349 : decode (mB 162) 349 = .ok (.iload_n 2, 1) := by decide +kernel
theorem d162_350 : decode (mB 162) 350 = .ok (.imul, 1) := by decide +kernel
theorem d162_351 : decode (mB 162) 351 = .ok (.iload 4, 2) := by decide +kernel
theorem d162_353 : decode (mB 162) 353 = .ok (.iadd, 1) := by decide +kernel
theorem d162_354 : decode (mB 162) 354 = .ok (.baload, 1) := by decide +kernel
theorem d162_355 : decode (mB 162) 355 = .ok (.ifCond .eq 301, 3) := by decide +kernel
theorem d162_358 : decode (mB 162) 358 = .ok (.aload_n 0, 1) := by decide +kernel
theorem d162_359 : decode (mB 162) 359 = .ok (.iload_n 1, 1) := by decide +kernel
theorem d162_360 : decode (mB 162) 360 = .ok (.iload_n 2, 1) := by decide +kernel
theorem d162_361 : decode (mB 162) 361 = .ok (.iload 4, 2) := by decide +kernel
theorem d162_363 : decode (mB 162) 363 = .ok (.iload_n 3, 1) := by decide +kernel
theorem d162_364 : decode (mB 162) 364 = .ok (.invokevirtual 367, 3) := by decide +kernel
theorem d162_367 : decode (mB 162) 367 = .ok (.iconst 0, 1) := by decide +kernel
theorem d162_368 : decode (mB 162) 368 = .ok (.ireturn, 1) := by decide +kernel
theorem d162_369 : decode (mB 162) 369 = .ok (.aload_n 0, 1) := by decide +kernel
theorem d162_370 : decode (mB 162) 370 = .ok (.iload_n 1, 1) := by decide +kernel
theorem d162_371 : decode (mB 162) 371 = .ok (.aload_n 0, 1) := by decide +kernel
theorem d162_372 : decode (mB 162) 372 = .ok (.getfield 39, 3) := by decide +kernel
theorem d162_375 : decode (mB 162) 375 = .ok (.iload_n 2, 1) := by decide +kernel
theorem d162_376 : decode (mB 162) 376 = .ok (.iaload, 1) := by decide +kernel
theorem d162_377 : decode (mB 162) 377 = .ok (.invokevirtual 396, 3) := by decide +kernel
theorem d162_380 : decode (mB 162) 380 = .ok (.lconst 0, 1) := by decide +kernel
theorem d162_381 : decode (mB 162) 381 = .ok (.lcmp, 1) := by decide +kernel
theorem d162_382 : decode (mB 162) 382 = .ok (.ifCond .eq 274, 3) := by decide +kernel
theorem d162_385 : decode (mB 162) 385 = .ok (.aload_n 0, 1) := by decide +kernel
theorem d162_386 : decode (mB 162) 386 = .ok (.iload_n 1, 1) := by decide +kernel
theorem d162_387 : decode (mB 162) 387 = .ok (.iload_n 2, 1) := by decide +kernel
theorem d162_388 : decode (mB 162) 388 = .ok (.iconst 0, 1) := by decide +kernel
theorem d162_389 : decode (mB 162) 389 = .ok (.iload_n 3, 1) := by decide +kernel
theorem d162_390 : decode (mB 162) 390 = .ok (.invokevirtual 367, 3) := by decide +kernel
theorem d162_393 : decode (mB 162) 393 = .ok (.iconst 0, 1) := by decide +kernel
theorem d162_394 : decode (mB 162) 394 = .ok (.ireturn, 1) := by decide +kernel
theorem d162_395 : decode (mB 162) 395 = .ok (.aload_n 0, 1) := by decide +kernel
theorem d162_396 : decode (mB 162) 396 = .ok (.getfield 83, 3) := by decide +kernel
theorem d162_399 : decode (mB 162) 399 = .ok (.aload_n 0, 1) := by decide +kernel
theorem d162_400 : decode (mB 162) 400 = .ok (.getfield 52, 3) := by decide +kernel
theorem d162_403 : decode (mB 162) 403 = .ok (.iload_n 2, 1) := by decide +kernel
theorem d162_404 : decode (mB 162) 404 = .ok (.iaload, 1) := by decide +kernel
theorem d162_405 : decode (mB 162) 405 = .ok (.baload, 1) := by decide +kernel
theorem d162_406 : decode (mB 162) 406 = .ok (.ifCond .ne 9, 3) := by decide +kernel
theorem d162_409 : decode (mB 162) 409 = .ok (.aload_n 0, 1) := by decide +kernel
theorem d162_410 : decode (mB 162) 410 = .ok (.iload_n 1, 1) := by decide +kernel
theorem d162_411 : decode (mB 162) 411 = .ok (.invokevirtual 400, 3) := by decide +kernel
theorem d162_414 : decode (mB 162) 414 = .ok (.ireturn, 1) := by decide +kernel
theorem d162_415 : decode (mB 162) 415 = .ok (.aload_n 0, 1) := by decide +kernel
theorem d162_416 : decode (mB 162) 416 = .ok (.getfield 104, 3) := by decide +kernel
theorem d162_419 : decode (mB 162) 419 = .ok (.bipush 10, 2) := by decide +kernel
theorem d162_421 : decode (mB 162) 421 = .ok (.iload_n 1, 1) := by decide +kernel
theorem d162_422 : decode (mB 162) 422 = .ok (.imul, 1) := by decide +kernel
theorem d162_423 : decode (mB 162) 423 = .ok (.aload_n 0, 1) := by decide +kernel
theorem d162_424 : decode (mB 162) 424 = .ok (.getfield 49, 3) := by decide +kernel
theorem d162_427 : decode (mB 162) 427 = .ok (.iload_n 2, 1) := by decide +kernel
theorem d162_428 : decode (mB 162) 428 = .ok (.iaload, 1) := by decide +kernel
theorem d162_429 : decode (mB 162) 429 = .ok (.iadd, 1) := by decide +kernel
theorem d162_430 : decode (mB 162) 430 = .ok (.bipush 16, 2) := by decide +kernel
theorem d162_432 : decode (mB 162) 432 = .ok (.isub, 1) := by decide +kernel
theorem d162_433 : decode (mB 162) 433 = .ok (.aload_n 0, 1) := by decide +kernel
theorem d162_434 : decode (mB 162) 434 = .ok (.getfield 86, 3) := by decide +kernel
theorem d162_437 : decode (mB 162) 437 = .ok (.aload_n 0, 1) := by decide +kernel
theorem d162_438 : decode (mB 162) 438 = .ok (.getfield 52, 3) := by decide +kernel
theorem d162_441 : decode (mB 162) 441 = .ok (.iload_n 2, 1) := by decide +kernel
theorem d162_442 : decode (mB 162) 442 = .ok (.iaload, 1) := by decide +kernel
theorem d162_443 : decode (mB 162) 443 = .ok (.laload, 1) := by decide +kernel
theorem d162_444 : decode (mB 162) 444 = .ok (.lastore, 1) := by decide +kernel
theorem d162_445 : decode (mB 162) 445 = .ok (.aload_n 0, 1) := by decide +kernel
theorem d162_446 : decode (mB 162) 446 = .ok (.getfield 83, 3) := by decide +kernel
theorem d162_449 : decode (mB 162) 449 = .ok (.aload_n 0, 1) := by decide +kernel
theorem d162_450 : decode (mB 162) 450 = .ok (.getfield 52, 3) := by decide +kernel
theorem d162_453 : decode (mB 162) 453 = .ok (.iload_n 2, 1) := by decide +kernel
theorem d162_454 : decode (mB 162) 454 = .ok (.iaload, 1) := by decide +kernel
theorem d162_455 : decode (mB 162) 455 = .ok (.iconst 0, 1) := by decide +kernel
theorem d162_456 : decode (mB 162) 456 = .ok (.bastore, 1) := by decide +kernel
theorem d162_457 : decode (mB 162) 457 = .ok (.goto 199, 3) := by decide +kernel
theorem d162_460 : decode (mB 162) 460 = .ok (.aload_n 0, 1) := by decide +kernel
theorem d162_461 : decode (mB 162) 461 = .ok (.getfield 83, 3) := by decide +kernel
theorem d162_464 : decode (mB 162) 464 = .ok (.aload_n 0, 1) := by decide +kernel
theorem d162_465 : decode (mB 162) 465 = .ok (.getfield 52, 3) := by decide +kernel
theorem d162_468 : decode (mB 162) 468 = .ok (.iload_n 2, 1) := by decide +kernel
theorem d162_469 : decode (mB 162) 469 = .ok (.iaload, 1) := by decide +kernel
theorem d162_470 : decode (mB 162) 470 = .ok (.baload, 1) := by decide +kernel
theorem d162_471 : decode (mB 162) 471 = .ok (.ifCond .eq 9, 3) := by decide +kernel
theorem d162_474 : decode (mB 162) 474 = .ok (.aload_n 0, 1) := by decide +kernel
theorem d162_475 : decode (mB 162) 475 = .ok (.iload_n 1, 1) := by decide +kernel
theorem d162_476 : decode (mB 162) 476 = .ok (.invokevirtual 400, 3) := by decide +kernel
theorem d162_479 : decode (mB 162) 479 = .ok (.ireturn, 1) := by decide +kernel
theorem d162_480 : decode (mB 162) 480 = .ok (.aload_n 0, 1) := by decide +kernel
theorem d162_481 : decode (mB 162) 481 = .ok (.getfield 86, 3) := by decide +kernel
theorem d162_484 : decode (mB 162) 484 = .ok (.aload_n 0, 1) := by decide +kernel
theorem d162_485 : decode (mB 162) 485 = .ok (.getfield 52, 3) := by decide +kernel
theorem d162_488 : decode (mB 162) 488 = .ok (.iload_n 2, 1) := by decide +kernel
theorem d162_489 : decode (mB 162) 489 = .ok (.iaload, 1) := by decide +kernel
theorem d162_490 : decode (mB 162) 490 = .ok (.aload_n 0, 1) := by decide +kernel
theorem d162_491 : decode (mB 162) 491 = .ok (.iload_n 1, 1) := by decide +kernel
theorem d162_492 : decode (mB 162) 492 = .ok (.aload_n 0, 1) := by decide +kernel
theorem d162_493 : decode (mB 162) 493 = .ok (.getfield 39, 3) := by decide +kernel
theorem d162_496 : decode (mB 162) 496 = .ok (.iload_n 2, 1) := by decide +kernel
theorem d162_497 : decode (mB 162) 497 = .ok (.iaload, 1) := by decide +kernel
theorem d162_498 : decode (mB 162) 498 = .ok (.invokevirtual 396, 3) := by decide +kernel
theorem d162_501 : decode (mB 162) 501 = .ok (.lastore, 1) := by decide +kernel
theorem d162_502 : decode (mB 162) 502 = .ok (.aload_n 0, 1) := by decide +kernel
theorem d162_503 : decode (mB 162) 503 = .ok (.getfield 83, 3) := by decide +kernel
theorem d162_506 : decode (mB 162) 506 = .ok (.aload_n 0, 1) := by decide +kernel
theorem d162_507 : decode (mB 162) 507 = .ok (.getfield 52, 3) := by decide +kernel
theorem d162_510 : decode (mB 162) 510 = .ok (.iload_n 2, 1) := by decide +kernel
theorem d162_511 : decode (mB 162) 511 = .ok (.iaload, 1) := by decide +kernel
theorem d162_512 : decode (mB 162) 512 = .ok (.iconst 1, 1) := by decide +kernel
theorem d162_513 : decode (mB 162) 513 = .ok (.bastore, 1) := by decide +kernel
theorem d162_514 : decode (mB 162) 514 = .ok (.goto 142, 3) := by decide +kernel
theorem d162_517 : decode (mB 162) 517 = .ok (.aload_n 0, 1) := by decide +kernel
theorem d162_518 : decode (mB 162) 518 = .ok (.aload_n 0, 1) := by decide +kernel
theorem d162_519 : decode (mB 162) 519 = .ok (.iload_n 1, 1) := by decide +kernel
theorem d162_520 : decode (mB 162) 520 = .ok (.iconst 0, 1) := by decide +kernel
theorem d162_521 : decode (mB 162) 521 = .ok (.aload_n 0, 1) := by decide +kernel
theorem d162_522 : decode (mB 162) 522 = .ok (.iload_n 1, 1) := by decide +kernel
theorem d162_523 : decode (mB 162) 523 = .ok (.aload_n 0, 1) := by decide +kernel
theorem d162_524 : decode (mB 162) 524 = .ok (.getfield 39, 3) := by decide +kernel
theorem d162_527 : decode (mB 162) 527 = .ok (.iload_n 2, 1) := by decide +kernel
theorem d162_528 : decode (mB 162) 528 = .ok (.iaload, 1) := by decide +kernel
theorem d162_529 : decode (mB 162) 529 = .ok (.invokevirtual 396, 3) := by decide +kernel
theorem d162_532 : decode (mB 162) 532 = .ok (.iconst (-1), 1) := by decide +kernel
theorem d162_533 : decode (mB 162) 533 = .ok (.invokevirtual 378, 3) := by decide +kernel
theorem d162_536 : decode (mB 162) 536 = .ok (.invokevirtual 382, 3) := by decide +kernel
theorem d162_539 : decode (mB 162) 539 = .ok (.ireturn, 1) := by decide +kernel
theorem d162_540 : decode (mB 162) 540 = .ok (.aload_n 0, 1) := by decide +kernel
theorem d162_541 : decode (mB 162) 541 = .ok (.getfield 55, 3) := by decide +kernel
theorem d162_544 : decode (mB 162) 544 = .ok (.iload_n 2, 1) := by decide +kernel
theorem d162_545 : decode (mB 162) 545 = .ok (.iaload, 1) := by decide +kernel
theorem d162_546 : decode (mB 162) 546 = .ok (.iload_n 1, 1) := by decide +kernel
theorem d162_547 : decode (mB 162) 547 = .ok (.if_icmp .ne 26, 3) := by decide +kernel
theorem d162_550 : decode (mB 162) 550 = .ok (.aload_n 0, 1) := by decide +kernel
theorem d162_551 : decode (mB 162) 551 = .ok (.aload_n 0, 1) := by decide +kernel
theorem d162_552 : decode (mB 162) 552 = .ok (.iload_n 1, 1) := by decide +kernel
theorem d162_553 : decode (mB 162) 553 = .ok (.iconst 0, 1) := by decide +kernel
theorem d162_554 : decode (mB 162) 554 = .ok (.aload_n 0, 1) := by decide +kernel
theorem d162_555 : decode (mB 162) 555 = .ok (.iload_n 1, 1) := by decide +kernel
theorem d162_556 : decode (mB 162) 556 = .ok (.aload_n 0, 1) := by decide +kernel
theorem d162_557 : decode (mB 162) 557 = .ok (.getfield 39, 3) := by decide +kernel
theorem d162_560 : decode (mB 162) 560 = .ok (.iload_n 2, 1) := by decide +kernel
theorem d162_561 : decode (mB 162) 561 = .ok (.iaload, 1) := by decide +kernel
theorem d162_562 : decode (mB 162) 562 = .ok (.invokevirtual 396, 3) := by decide +kernel
theorem d162_565 : decode (mB 162) 565 = .ok (.iconst (-1), 1) := by decide +kernel
theorem d162_566 : decode (mB 162) 566 = .ok (.invokevirtual 378, 3) := by decide +kernel
theorem d162_569 : decode (mB 162) 569 = .ok (.invokevirtual 382, 3) := by decide +kernel
theorem d162_572 : decode (mB 162) 572 = .ok (.ireturn, 1) := by decide +kernel
theorem d162_573 : decode (mB 162) 573 = .ok (.aload_n 0, 1) := by decide +kernel
theorem d162_574 : decode (mB 162) 574 = .ok (.iload_n 1, 1) := by decide +kernel
theorem d162_575 : decode (mB 162) 575 = .ok (.iload_n 2, 1) := by decide +kernel
theorem d162_576 : decode (mB 162) 576 = .ok (.invokevirtual 403, 3) := by decide +kernel
theorem d162_579 : decode (mB 162) 579 = .ok (.ifCond .eq 9, 3) := by decide +kernel
theorem d162_582 : decode (mB 162) 582 = .ok (.aload_n 0, 1) := by decide +kernel
theorem d162_583 : decode (mB 162) 583 = .ok (.iload_n 1, 1) := by decide +kernel
theorem d162_584 : decode (mB 162) 584 = .ok (.invokevirtual 400, 3) := by decide +kernel
theorem d162_587 : decode (mB 162) 587 = .ok (.ireturn, 1) := by decide +kernel
theorem d162_588 : decode (mB 162) 588 = .ok (.aload_n 0, 1) := by decide +kernel
theorem d162_589 : decode (mB 162) 589 = .ok (.getfield 149, 3) := by decide +kernel
theorem d162_592 : decode (mB 162) 592 = .ok (.iload_n 1, 1) := by decide +kernel
theorem d162_593 : decode (mB 162) 593 = .ok (.iconst 0, 1) := by decide +kernel
theorem d162_594 : decode (mB 162) 594 = .ok (.iastore, 1) := by decide +kernel
theorem d162_595 : decode (mB 162) 595 = .ok (.goto 61, 3) := by decide +kernel
theorem d162_598 : decode (mB 162) 598 = .ok (.aload_n 0, 1) := by decide +kernel
theorem d162_599 : decode (mB 162) 599 = .ok (.iload_n 1, 1) := by decide +kernel
theorem d162_600 : decode (mB 162) 600 = .ok (.iload_n 2, 1) := by decide +kernel
theorem d162_601 : decode (mB 162) 601 = .ok (.iconst 0, 1) := by decide +kernel
theorem d162_602 : decode (mB 162) 602 = .ok (.iload_n 3, 1) := by decide +kernel
theorem d162_603 : decode (mB 162) 603 = .ok (.iconst 1, 1) := by decide +kernel
theorem d162_604 : decode (mB 162) 604 = .ok (.invokestatic 371, 3) := by decide +kernel
theorem d162_607 : decode (mB 162) 607 = .ok (.invokevirtual 367, 3) := by decide +kernel
theorem d162_610 : decode (mB 162) 610 = .ok (.iconst 0, 1) := by decide +kernel
theorem d162_611 : decode (mB 162) 611 = .ok (.ireturn, 1) := by decide +kernel
theorem d162_612 : decode (mB 162) 612 = .ok (.aload_n 0, 1) := by decide +kernel
theorem d162_613 : decode (mB 162) 613 = .ok (.iload_n 1, 1) := by decide +kernel
theorem d162_614 : decode (mB 162) 614 = .ok (.iload_n 2, 1) := by decide +kernel
theorem d162_615 : decode (mB 162) 615 = .ok (.iconst 0, 1) := by decide +kernel
theorem d162_616 : decode (mB 162) 616 = .ok (.iconst 2, 1) := by decide +kernel
theorem d162_617 : decode (mB 162) 617 = .ok (.invokevirtual 367, 3) := by decide +kernel
theorem d162_620 : decode (mB 162) 620 = .ok (.iconst 0, 1) := by decide +kernel
theorem d162_621 : decode (mB 162) 621 = .ok (.ireturn, 1) := by decide +kernel
theorem d162_622 : decode (mB 162) 622 = .ok (.aload_n 0, 1) := by decide +kernel
theorem d162_623 : decode (mB 162) 623 = .ok (.iload_n 1, 1) := by decide +kernel
theorem d162_624 : decode (mB 162) 624 = .ok (.iload_n 2, 1) := by decide +kernel
theorem d162_625 : decode (mB 162) 625 = .ok (.iconst 0, 1) := by decide +kernel
theorem d162_626 : decode (mB 162) 626 = .ok (.iconst 0, 1) := by decide +kernel
theorem d162_627 : decode (mB 162) 627 = .ok (.invokevirtual 367, 3) := by decide +kernel
theorem d162_630 : decode (mB 162) 630 = .ok (.iconst 0, 1) := by decide +kernel
theorem d162_631 : decode (mB 162) 631 = .ok (.ireturn, 1) := by decide +kernel
theorem d162_632 : decode (mB 162) 632 = .ok (.aload_n 0, 1) := by decide +kernel
theorem d162_633 : decode (mB 162) 633 = .ok (.iload_n 1, 1) := by decide +kernel
theorem d162_634 : decode (mB 162) 634 = .ok (.iload_n 2, 1) := by decide +kernel
theorem d162_635 : decode (mB 162) 635 = .ok (.iconst 0, 1) := by decide +kernel
theorem d162_636 : decode (mB 162) 636 = .ok (.iload_n 3, 1) := by decide +kernel
theorem d162_637 : decode (mB 162) 637 = .ok (.iconst 1, 1) := by decide +kernel
theorem d162_638 : decode (mB 162) 638 = .ok (.invokestatic 371, 3) := by decide +kernel
theorem d162_641 : decode (mB 162) 641 = .ok (.invokevirtual 367, 3) := by decide +kernel
theorem d162_644 : decode (mB 162) 644 = .ok (.iconst 0, 1) := by decide +kernel
theorem d162_645 : decode (mB 162) 645 = .ok (.ireturn, 1) := by decide +kernel
theorem d162_646 : decode (mB 162) 646 = .ok (.aload_n 0, 1) := by decide +kernel
theorem d162_647 : decode (mB 162) 647 = .ok (.iload_n 1, 1) := by decide +kernel
theorem d162_648 : decode (mB 162) 648 = .ok (.iload_n 2, 1) := by decide +kernel
theorem d162_649 : decode (mB 162) 649 = .ok (.iconst 0, 1) := by decide +kernel
theorem d162_650 : decode (mB 162) 650 = .ok (.iload_n 3, 1) := by decide +kernel
theorem d162_651 : decode (mB 162) 651 = .ok (.invokevirtual 367, 3) := by decide +kernel
theorem d162_654 : decode (mB 162) 654 = .ok (.iconst 0, 1) := by decide +kernel
theorem d162_655 : decode (mB 162) 655 = .ok (.ireturn, 1) := by decide +kernel
theorem d162_656 : decode (mB 162) 656 = .ok (.aload_n 0, 1) := by decide +kernel
theorem d162_657 : decode (mB 162) 657 = .ok (.getfield 92, 3) := by decide +kernel
theorem d162_660 : decode (mB 162) 660 = .ok (.iload_n 1, 1) := by decide +kernel
theorem d162_661 : decode (mB 162) 661 = .ok (.aload_n 0, 1) := by decide +kernel
theorem d162_662 : decode (mB 162) 662 = .ok (.getfield 36, 3) := by decide +kernel
theorem d162_665 : decode (mB 162) 665 = .ok (.iload_n 2, 1) := by decide +kernel
theorem d162_666 : decode (mB 162) 666 = .ok (.iaload, 1) := by decide +kernel
theorem d162_667 : decode (mB 162) 667 = .ok (.iastore, 1) := by decide +kernel
theorem d162_668 : decode (mB 162) 668 = .ok (.iconst 0, 1) := by decide +kernel
theorem d162_669 : decode (mB 162) 669 = .ok (.ireturn, 1) := by decide +kernel
theorem d175_0 : decode (mB 175) 0 = .ok (.aload_n 0, 1) := by decide +kernel
theorem d175_1 : decode (mB 175) 1 = .ok (.getfield 55, 3) := by decide +kernel
theorem d175_4 : decode (mB 175) 4 = .ok (.iload_n 2, 1) := by decide +kernel
theorem d175_5 : decode (mB 175) 5 = .ok (.iaload, 1) := by decide +kernel
theorem d175_6 : decode (mB 175) 6 = .ok (.istore_n 3, 1) := by decide +kernel
theorem d175_7 : decode (mB 175) 7 = .ok (.aload_n 0, 1) := by decide +kernel
theorem d175_8 : decode (mB 175) 8 = .ok (.getfield 89, 3) := by decide +kernel
theorem d175_11 : decode (mB 175) 11 = .ok (.iload_n 3, 1) := by decide +kernel
theorem d175_12 : decode (mB 175) 12 = .ok (.iaload, 1) := by decide +kernel
theorem d175_13 : decode (mB 175) 13 = .ok (.iconst 1, 1) := by decide +kernel
theorem d175_14 : decode (mB 175) 14 = .ok (.if_icmp .eq 5, 3) := by decide +kernel
theorem d175_17 : decode (mB 175) 17 = .ok (.iconst 0, 1) := by decide +kernel
theorem d175_18 : decode (mB 175) 18 = .ok (.ireturn, 1) := by decide +kernel
theorem d175_19 : decode (mB 175) 19 = .ok (.aload_n 0, 1) := by decide +kernel
theorem d175_20 : decode (mB 175) 20 = .ok (.getfield 149, 3) := by decide +kernel
theorem d175_23 : decode (mB 175) 23 = .ok (.iload_n 1, 1) := by decide +kernel
theorem d175_24 : decode (mB 175) 24 = .ok (.iaload, 1) := by decide +kernel
theorem d175_25 : decode (mB 175) 25 = .ok (.ifCond .ne 54, 3) := by decide +kernel
theorem d175_28 : decode (mB 175) 28 = .ok (.aload_n 0, 1) := by decide +kernel
theorem d175_29 : decode (mB 175) 29 = .ok (.dup, 1) := by decide +kernel
theorem d175_30 : decode (mB 175) 30 = .ok (.getfield 407, 3) := by decide +kernel
theorem d175_33 : decode (mB 175) 33 = .ok (.iconst 1, 1) := by decide +kernel
theorem d175_34 : decode (mB 175) 34 = .ok (.iadd, 1) := by decide +kernel
theorem d175_35 : decode (mB 175) 35 = .ok (.putfield 407, 3) := by decide +kernel
theorem d175_38 : decode (mB 175) 38 = .ok (.aload_n 0, 1) := by decide +kernel
theorem d175_39 : decode (mB 175) 39 = .ok (.getfield 149, 3) := by decide +kernel
theorem d175_42 : decode (mB 175) 42 = .ok (.iload_n 1, 1) := by decide +kernel
theorem d175_43 : decode (mB 175) 43 = .ok (.aload_n 0, 1) := by decide +kernel
theorem d175_44 : decode (mB 175) 44 = .ok (.getfield 407, 3) := by decide +kernel
theorem d175_47 : decode (mB 175) 47 = .ok (.iastore, 1) := by decide +kernel
theorem d175_48 : decode (mB 175) 48 = .ok (.aload_n 0, 1) := by decide +kernel
theorem d175_49 : decode (mB 175) 49 = .ok (.getfield 152, 3) := by decide +kernel
theorem d175_52 : decode (mB 175) 52 = .ok (.iload_n 1, 1) := by decide +kernel
theorem d175_53 : decode (mB 175) 53 = .ok (.iload_n 3, 1) := by decide +kernel
theorem d175_54 : decode (mB 175) 54 = .ok (.iastore, 1) := by decide +kernel
theorem d175_55 : decode (mB 175) 55 = .ok (.aload_n 0, 1) := by decide +kernel
theorem d175_56 : decode (mB 175) 56 = .ok (.iload_n 3, 1) := by decide +kernel
theorem d175_57 : decode (mB 175) 57 = .ok (.iload_n 1, 1) := by decide +kernel
theorem d175_58 : decode (mB 175) 58 = .ok (.aload_n 0, 1) := by decide +kernel
theorem d175_59 : decode (mB 175) 59 = .ok (.iload_n 1, 1) := by decide +kernel
theorem d175_60 : decode (mB 175) 60 = .ok (.aload_n 0, 1) := by decide +kernel
theorem d175_61 : decode (mB 175) 61 = .ok (.getfield 39, 3) := by decide +kernel
theorem d175_64 : decode (mB 175) 64 = .ok (.iload_n 2, 1) := by decide +kernel
theorem d175_65 : decode (mB 175) 65 = .ok (.iaload, 1) := by decide +kernel
theorem d175_66 : decode (mB 175) 66 = .ok (.invokevirtual 396, 3) := by decide +kernel
theorem d175_69 : decode (mB 175) 69 = .ok (.iconst (-1), 1) := by decide +kernel
theorem d175_70 : decode (mB 175) 70 = .ok (.aload_n 0, 1) := by decide +kernel
theorem d175_71 : decode (mB 175) 71 = .ok (.getfield 407, 3) := by decide +kernel
theorem d175_74 : decode (mB 175) 74 = .ok (.invokevirtual 386, 3) := by decide +kernel
theorem d175_77 : decode (mB 175) 77 = .ok (.iconst 1, 1) := by decide +kernel
theorem d175_78 : decode (mB 175) 78 = .ok (.ireturn, 1) := by decide +kernel
theorem d175_79 : decode (mB 175) 79 = .ok (.aload_n 0, 1) := by decide +kernel
theorem d175_80 : decode (mB 175) 80 = .ok (.iload_n 3, 1) := by decide +kernel
theorem d175_81 : decode (mB 175) 81 = .ok (.aload_n 0, 1) := by decide +kernel
theorem d175_82 : decode (mB 175) 82 = .ok (.getfield 149, 3) := by decide +kernel
theorem d175_85 : decode (mB 175) 85 = .ok (.iload_n 1, 1) := by decide +kernel
theorem d175_86 : decode (mB 175) 86 = .ok (.iaload, 1) := by decide +kernel
theorem d175_87 : decode (mB 175) 87 = .ok (.invokevirtual 410, 3) := by decide +kernel
theorem d175_90 : decode (mB 175) 90 = .ok (.ireturn, 1) := by decide +kernel
theorem d159_0 : decode (mB 159) 0 = .ok (.aload_n 0, 1) := by decide +kernel
theorem d159_1 : decode (mB 159) 1 = .ok (.dup, 1) := by decide +kernel
theorem d159_2 : decode (mB 159) 2 = .ok (.getfield 353, 3) := by decide +kernel
theorem d159_5 : decode (mB 159) 5 = .ok (.iconst 1, 1) := by decide +kernel
theorem d159_6 : decode (mB 159) 6 = .ok (.iadd, 1) := by decide +kernel
theorem d159_7 : decode (mB 159) 7 = .ok (.putfield 353, 3) := by decide +kernel
theorem d159_10 : decode (mB 159) 10 = .ok (.aload_n 0, 1) := by decide +kernel
theorem d159_11 : decode (mB 159) 11 = .ok (.invokevirtual 413, 3) := by decide +kernel
theorem d159_14 : decode (mB 159) 14 = .ok (.aload_n 0, 1) := by decide +kernel
theorem d159_15 : decode (mB 159) 15 = .ok (.iload_n 1, 1) := by decide +kernel
theorem d159_16 : decode (mB 159) 16 = .ok (.invokevirtual 416, 3) := by decide +kernel
theorem d159_19 : decode (mB 159) 19 = .ok (.istore_n 2, 1) := by decide +kernel
theorem d159_20 : decode (mB 159) 20 = .ok (.aload_n 0, 1) := by decide +kernel
theorem d159_21 : decode (mB 159) 21 = .ok (.getfield 98, 3) := by decide +kernel
theorem d159_24 : decode (mB 159) 24 = .ok (.iload_n 1, 1) := by decide +kernel
theorem d159_25 : decode (mB 159) 25 = .ok (.dup2, 1) := by decide +kernel
theorem d159_26 : decode (mB 159) 26 = .ok (.iaload, 1) := by decide +kernel
theorem d159_27 : decode (mB 159) 27 = .ok (.iload_n 2, 1) := by decide +kernel
theorem d159_28 : decode (mB 159) 28 = .ok (.iconst 4, 1) := by decide +kernel
theorem d159_29 : decode (mB 159) 29 = .ok (.if_icmp .ge 7, 3) := by decide +kernel
theorem d159_32 : decode (mB 159) 32 = .ok (.iconst 1, 1) := by decide +kernel
theorem d159_33 : decode (mB 159) 33 = .ok (.goto 4, 3) := by decide +kernel
theorem d159_36 : decode (mB 159) 36 = .ok (.iconst 0, 1) := by decide +kernel
theorem d159_37 : decode (mB 159) 37 = .ok (.iadd, 1) := by decide +kernel
theorem d159_38 : decode (mB 159) 38 = .ok (.iastore, 1) := by decide +kernel
theorem d159_39 : decode (mB 159) 39 = .ok (.iload_n 2, 1) := by decide +kernel
theorem d159_40 : decode (mB 159) 40 = .ok (.ireturn, 1) := by decide +kernel
theorem d157_0 : decode (mB 157) 0 = .ok (.iload_n 0, 1) := by decide +kernel
theorem d157_1 : decode (mB 157) 1 = .ok (.ifCond .lt 13, 3) := by decide +kernel
theorem d157_4 : decode (mB 157) 4 = .ok (.iload_n 0, 1) := by decide +kernel
theorem d157_5 : decode (mB 157) 5 = .ok (.bipush 6, 2) := by decide +kernel
theorem d157_7 : decode (mB 157) 7 = .ok (.if_icmp .ge 7, 3) := by decide +kernel
theorem d157_10 : decode (mB 157) 10 = .ok (.iconst 1, 1) := by decide +kernel
theorem d157_11 : decode (mB 157) 11 = .ok (.goto 4, 3) := by decide +kernel
theorem d157_14 : decode (mB 157) 14 = .ok (.iconst 0, 1) := by decide +kernel
theorem d157_15 : decode (mB 157) 15 = .ok (.ireturn, 1) := by decide +kernel
theorem d156_0 : decode (mB 156) 0 = .ok (.iload_n 1, 1) := by decide +kernel
theorem d156_1 : decode (mB 156) 1 = .ok (.invokestatic 419, 3) := by decide +kernel
theorem d156_4 : decode (mB 156) 4 = .ok (.ifCond .eq 25, 3) := by decide +kernel
theorem d156_7 : decode (mB 156) 7 = .ok (.iload_n 2, 1) := by decide +kernel
theorem d156_8 : decode (mB 156) 8 = .ok (.ifCond .lt 21, 3) := by decide +kernel
theorem d156_11 : decode (mB 156) 11 = .ok (.iload_n 2, 1) := by decide +kernel
theorem d156_12 : decode (mB 156) 12 = .ok (.aload_n 0, 1) := by decide +kernel
theorem d156_13 : decode (mB 156) 13 = .ok (.getfield 344, 3) := by decide +kernel
theorem d156_16 : decode (mB 156) 16 = .ok (.if_icmp .ge 13, 3) := by decide +kernel
theorem d156_19 : decode (mB 156) 19 = .ok (.aload_n 0, 1) := by decide +kernel
theorem d156_20 : decode (mB 156) 20 = .ok (.getfield 89, 3) := by decide +kernel
theorem d156_23 : decode (mB 156) 23 = .ok (.iload_n 1, 1) := by decide +kernel
theorem d156_24 : decode (mB 156) 24 = .ok (.iaload, 1) := by decide +kernel
theorem d156_25 : decode (mB 156) 25 = .ok (.iconst 1, 1) := by decide +kernel
theorem d156_26 : decode (mB 156) 26 = .ok (.if_icmp .ne 5, 3) := by decide +kernel
theorem d156_29 : decode (mB 156) 29 = .ok (.iconst (-1), 1) := by decide +kernel
theorem d156_30 : decode (mB 156) 30 = .ok (.ireturn, 1) := by decide +kernel
theorem d156_31 : decode (mB 156) 31 = .ok (.aload_n 0, 1) := by decide +kernel
theorem d156_32 : decode (mB 156) 32 = .ok (.getfield 89, 3) := by decide +kernel
theorem d156_35 : decode (mB 156) 35 = .ok (.iload_n 1, 1) := by decide +kernel
theorem d156_36 : decode (mB 156) 36 = .ok (.iconst 1, 1) := by decide +kernel
theorem d156_37 : decode (mB 156) 37 = .ok (.iastore, 1) := by decide +kernel
theorem d156_38 : decode (mB 156) 38 = .ok (.aload_n 0, 1) := by decide +kernel
theorem d156_39 : decode (mB 156) 39 = .ok (.getfield 92, 3) := by decide +kernel
theorem d156_42 : decode (mB 156) 42 = .ok (.iload_n 1, 1) := by decide +kernel
theorem d156_43 : decode (mB 156) 43 = .ok (.aload_n 0, 1) := by decide +kernel
theorem d156_44 : decode (mB 156) 44 = .ok (.getfield 27, 3) := by decide +kernel
theorem d156_47 : decode (mB 156) 47 = .ok (.iload_n 2, 1) := by decide +kernel
theorem d156_48 : decode (mB 156) 48 = .ok (.iaload, 1) := by decide +kernel
theorem d156_49 : decode (mB 156) 49 = .ok (.iastore, 1) := by decide +kernel
theorem d156_50 : decode (mB 156) 50 = .ok (.aload_n 0, 1) := by decide +kernel
theorem d156_51 : decode (mB 156) 51 = .ok (.getfield 95, 3) := by decide +kernel
theorem d156_54 : decode (mB 156) 54 = .ok (.iload_n 1, 1) := by decide +kernel
theorem d156_55 : decode (mB 156) 55 = .ok (.iconst 0, 1) := by decide +kernel
theorem d156_56 : decode (mB 156) 56 = .ok (.iastore, 1) := by decide +kernel
theorem d156_57 : decode (mB 156) 57 = .ok (.aload_n 0, 1) := by decide +kernel
theorem d156_58 : decode (mB 156) 58 = .ok (.getfield 98, 3) := by decide +kernel
theorem d156_61 : decode (mB 156) 61 = .ok (.iload_n 1, 1) := by decide +kernel
theorem d156_62 : decode (mB 156) 62 = .ok (.iconst 0, 1) := by decide +kernel
theorem d156_63 : decode (mB 156) 63 = .ok (.iastore, 1) := by decide +kernel
theorem d156_64 : decode (mB 156) 64 = .ok (.aload_n 0, 1) := by decide +kernel
theorem d156_65 : decode (mB 156) 65 = .ok (.getfield 101, 3) := by decide +kernel
theorem d156_68 : decode (mB 156) 68 = .ok (.iload_n 1, 1) := by decide +kernel
theorem d156_69 : decode (mB 156) 69 = .ok (.lconst 0, 1) := by decide +kernel
theorem d156_70 : decode (mB 156) 70 = .ok (.lastore, 1) := by decide +kernel
theorem d156_71 : decode (mB 156) 71 = .ok (.aload_n 0, 1) := by decide +kernel
theorem d156_72 : decode (mB 156) 72 = .ok (.getfield 107, 3) := by decide +kernel
theorem d156_75 : decode (mB 156) 75 = .ok (.iload_n 1, 1) := by decide +kernel
theorem d156_76 : decode (mB 156) 76 = .ok (.iconst 0, 1) := by decide +kernel
theorem d156_77 : decode (mB 156) 77 = .ok (.iastore, 1) := by decide +kernel
theorem d156_78 : decode (mB 156) 78 = .ok (.aload_n 0, 1) := by decide +kernel
theorem d156_79 : decode (mB 156) 79 = .ok (.getfield 134, 3) := by decide +kernel
theorem d156_82 : decode (mB 156) 82 = .ok (.iload_n 1, 1) := by decide +kernel
theorem d156_83 : decode (mB 156) 83 = .ok (.iconst 0, 1) := by decide +kernel
theorem d156_84 : decode (mB 156) 84 = .ok (.iastore, 1) := by decide +kernel
theorem d156_85 : decode (mB 156) 85 = .ok (.aload_n 0, 1) := by decide +kernel
theorem d156_86 : decode (mB 156) 86 = .ok (.getfield 149, 3) := by decide +kernel
theorem d156_89 : decode (mB 156) 89 = .ok (.iload_n 1, 1) := by decide +kernel
theorem d156_90 : decode (mB 156) 90 = .ok (.iconst 0, 1) := by decide +kernel
theorem d156_91 : decode (mB 156) 91 = .ok (.iastore, 1) := by decide +kernel
theorem d156_92 : decode (mB 156) 92 = .ok (.iconst 0, 1) := by decide +kernel
theorem d156_93 : decode (mB 156) 93 = .ok (.istore_n 3, 1) := by decide +kernel
theorem d156_94 : decode (mB 156) 94 = .ok (.iload_n 3, 1) := by decide +kernel
theorem d156_95 : decode (mB 156) 95 = .ok (.bipush 10, 2) := by decide +kernel
theorem d156_97 : decode (mB 156) 97 = .ok (.if_icmp .ge 21, 3) := by decide +kernel
theorem d156_100 : decode (mB 156) 100 = .ok (.aload_n 0, 1) := by decide +kernel
theorem d156_101 : decode (mB 156) 101 = .ok (.getfield 104, 3) := by decide +kernel
theorem d156_104 : decode (mB 156) 104 = .ok (.bipush 10, 2) := by decide +kernel
theorem d156_106 : decode (mB 156) 106 = .ok (.iload_n 1, 1) := by decide +kernel
theorem d156_107 : decode (mB 156) 107 = .ok (.imul, 1) := by decide +kernel
theorem d156_108 : decode (mB 156) 108 = .ok (.iload_n 3, 1) := by decide +kernel
theorem d156_109 : decode (mB 156) 109 = .ok (.iadd, 1) := by decide +kernel
theorem d156_110 : decode (mB 156) 110 = .ok (.lconst 0, 1) := by decide +kernel
theorem d156_111 : decode (mB 156) 111 = .ok (.lastore, 1) := by decide +kernel
theorem d156_112 : decode (mB 156) 112 = .ok (.iinc 3 1, 3) := by decide +kernel
theorem d156_115 : decode (mB 156) 115 = .ok (.goto (-21), 3) := by decide +kernel
theorem d156_118 : decode (mB 156) 118 = .ok (.iconst 1, 1) := by decide +kernel
theorem d156_119 : decode (mB 156) 119 = .ok (.ireturn, 1) := by decide +kernel
theorem d158_0 : decode (mB 158) 0 = .ok (.iload_n 1, 1) := by decide +kernel
theorem d158_1 : decode (mB 158) 1 = .ok (.invokestatic 419, 3) := by decide +kernel
theorem d158_4 : decode (mB 158) 4 = .ok (.ifCond .eq 21, 3) := by decide +kernel
theorem d158_7 : decode (mB 158) 7 = .ok (.aload_n 0, 1) := by decide +kernel
theorem d158_8 : decode (mB 158) 8 = .ok (.getfield 89, 3) := by decide +kernel
theorem d158_11 : decode (mB 158) 11 = .ok (.iload_n 1, 1) := by decide +kernel
theorem d158_12 : decode (mB 158) 12 = .ok (.iaload, 1) := by decide +kernel
theorem d158_13 : decode (mB 158) 13 = .ok (.iconst 1, 1) := by decide +kernel
theorem d158_14 : decode (mB 158) 14 = .ok (.if_icmp .ne 11, 3) := by decide +kernel
theorem d158_17 : decode (mB 158) 17 = .ok (.aload_n 0, 1) := by decide +kernel
theorem d158_18 : decode (mB 158) 18 = .ok (.iload_n 1, 1) := by decide +kernel
theorem d158_19 : decode (mB 158) 19 = .ok (.invokevirtual 422, 3) := by decide +kernel
theorem d158_22 : decode (mB 158) 22 = .ok (.goto 4, 3) := by decide +kernel
theorem d158_25 : decode (mB 158) 25 = .ok (.iconst (-1), 1) := by decide +kernel
theorem d158_26 : decode (mB 158) 26 = .ok (.ireturn, 1) := by decide +kernel
theorem d177_0 : decode (mB 177) 0 = .ok (.iload_n 3, 1) := by decide +kernel
theorem d177_1 : decode (mB 177) 1 = .ok (.ifCond .lt 10, 3) := by decide +kernel
theorem d177_4 : decode (mB 177) 4 = .ok (.iload_n 3, 1) := by decide +kernel
theorem d177_5 : decode (mB 177) 5 = .ok (.sipush 2000, 3) := by decide +kernel
theorem d177_8 : decode (mB 177) 8 = .ok (.if_icmp .le 5, 3) := by decide +kernel
theorem d177_11 : decode (mB 177) 11 = .ok (.iconst (-1), 1) := by decide +kernel
theorem d177_12 : decode (mB 177) 12 = .ok (.ireturn, 1) := by decide +kernel
theorem d177_13 : decode (mB 177) 13 = .ok (.lload_n 1, 1) := by decide +kernel
theorem d177_14 : decode (mB 177) 14 = .ok (.lstore 4, 2) := by decide +kernel
theorem d177_16 : decode (mB 177) 16 = .ok (.iconst 0, 1) := by decide +kernel
theorem d177_17 : decode (mB 177) 17 = .ok (.istore 6, 2) := by decide +kernel
theorem d177_19 : decode (mB 177) 19 = .ok (.iconst 0, 1) := by decide +kernel
theorem d177_20 : decode (mB 177) 20 = .ok (.istore 7, 2) := by decide +kernel
theorem d177_22 : decode (mB 177) 22 = .ok (.iload 7, 2) := by decide +kernel
theorem d177_24 : decode (mB 177) 24 = .ok (.iload_n 3, 1) := by decide +kernel
theorem d177_25 : decode (mB 177) 25 = .ok (.if_icmp .ge 68, 3) := by decide +kernel
theorem d177_28 : decode (mB 177) 28 = .ok (.lload 4, 2) := by decide +kernel
theorem d177_30 : decode (mB 177) 30 = .ok (.ldc2_w 425, 3) := by decide +kernel
theorem d177_33 : decode (mB 177) 33 = .ok (.lmul, 1) := by decide +kernel
theorem d177_34 : decode (mB 177) 34 = .ok (.ldc2_w 427, 3) := by decide +kernel
theorem d177_37 : decode (mB 177) 37 = .ok (.ladd, 1) := by decide +kernel
theorem d177_38 : decode (mB 177) 38 = .ok (.lstore 4, 2) := by decide +kernel
theorem d177_40 : decode (mB 177) 40 = .ok (.lload 4, 2) := by decide +kernel
theorem d177_42 : decode (mB 177) 42 = .ok (.bipush 61, 2) := by decide +kernel
theorem d177_44 : decode (mB 177) 44 = .ok (.lushr, 1) := by decide +kernel
theorem d177_45 : decode (mB 177) 45 = .ok (.l2i, 1) := by decide +kernel
theorem d177_46 : decode (mB 177) 46 = .ok (.istore 8, 2) := by decide +kernel
theorem d177_48 : decode (mB 177) 48 = .ok (.iload 8, 2) := by decide +kernel
theorem d177_50 : decode (mB 177) 50 = .ok (.invokestatic 419, 3) := by decide +kernel
theorem d177_53 : decode (mB 177) 53 = .ok (.ifCond .eq 34, 3) := by decide +kernel
theorem d177_56 : decode (mB 177) 56 = .ok (.aload_n 0, 1) := by decide +kernel
theorem d177_57 : decode (mB 177) 57 = .ok (.getfield 89, 3) := by decide +kernel
theorem d177_60 : decode (mB 177) 60 = .ok (.iload 8, 2) := by decide +kernel
theorem d177_62 : decode (mB 177) 62 = .ok (.iaload, 1) := by decide +kernel
theorem d177_63 : decode (mB 177) 63 = .ok (.iconst 1, 1) := by decide +kernel
theorem d177_64 : decode (mB 177) 64 = .ok (.if_icmp .ne 23, 3) := by decide +kernel
theorem d177_67 : decode (mB 177) 67 = .ok (.iload 6, 2) := by decide +kernel
theorem d177_69 : decode (mB 177) 69 = .ok (.aload_n 0, 1) := by decide +kernel
theorem d177_70 : decode (mB 177) 70 = .ok (.iload 8, 2) := by decide +kernel
theorem d177_72 : decode (mB 177) 72 = .ok (.invokevirtual 422, 3) := by decide +kernel
theorem d177_75 : decode (mB 177) 75 = .ok (.iconst 4, 1) := by decide +kernel
theorem d177_76 : decode (mB 177) 76 = .ok (.if_icmp .ge 7, 3) := by decide +kernel
theorem d177_79 : decode (mB 177) 79 = .ok (.iconst 1, 1) := by decide +kernel
theorem d177_80 : decode (mB 177) 80 = .ok (.goto 4, 3) := by decide +kernel
theorem d177_83 : decode (mB 177) 83 = .ok (.iconst 0, 1) := by decide +kernel
theorem d177_84 : decode (mB 177) 84 = .ok (.iadd, 1) := by decide +kernel
theorem d177_85 : decode (mB 177) 85 = .ok (.istore 6, 2) := by decide +kernel
theorem d177_87 : decode (mB 177) 87 = .ok (.iinc 7 1, 3) := by decide +kernel
theorem d177_90 : decode (mB 177) 90 = .ok (.goto (-68), 3) := by decide +kernel
theorem d177_93 : decode (mB 177) 93 = .ok (.iload 6, 2) := by decide +kernel
theorem d177_95 : decode (mB 177) 95 = .ok (.ireturn, 1) := by decide +kernel
theorem d178_0 : decode (mB 178) 0 = .ok (.iload_n 1, 1) := by decide +kernel
theorem d178_1 : decode (mB 178) 1 = .ok (.invokestatic 419, 3) := by decide +kernel
theorem d178_4 : decode (mB 178) 4 = .ok (.ifCond .eq 13, 3) := by decide +kernel
theorem d178_7 : decode (mB 178) 7 = .ok (.aload_n 0, 1) := by decide +kernel
theorem d178_8 : decode (mB 178) 8 = .ok (.getfield 89, 3) := by decide +kernel
theorem d178_11 : decode (mB 178) 11 = .ok (.iload_n 1, 1) := by decide +kernel
theorem d178_12 : decode (mB 178) 12 = .ok (.iaload, 1) := by decide +kernel
theorem d178_13 : decode (mB 178) 13 = .ok (.iconst 1, 1) := by decide +kernel
theorem d178_14 : decode (mB 178) 14 = .ok (.if_icmp .eq 5, 3) := by decide +kernel
theorem d178_17 : decode (mB 178) 17 = .ok (.iconst (-1), 1) := by decide +kernel
theorem d178_18 : decode (mB 178) 18 = .ok (.ireturn, 1) := by decide +kernel
theorem d178_19 : decode (mB 178) 19 = .ok (.iconst 0, 1) := by decide +kernel
theorem d178_20 : decode (mB 178) 20 = .ok (.istore 4, 2) := by decide +kernel
theorem d178_22 : decode (mB 178) 22 = .ok (.iconst 0, 1) := by decide +kernel
theorem d178_23 : decode (mB 178) 23 = .ok (.istore 5, 2) := by decide +kernel
theorem d178_25 : decode (mB 178) 25 = .ok (.iload 5, 2) := by decide +kernel
theorem d178_27 : decode (mB 178) 27 = .ok (.aload_n 0, 1) := by decide +kernel
theorem d178_28 : decode (mB 178) 28 = .ok (.getfield 134, 3) := by decide +kernel
theorem d178_31 : decode (mB 178) 31 = .ok (.iload_n 1, 1) := by decide +kernel
theorem d178_32 : decode (mB 178) 32 = .ok (.iaload, 1) := by decide +kernel
theorem d178_33 : decode (mB 178) 33 = .ok (.if_icmp .ge 36, 3) := by decide +kernel
theorem d178_36 : decode (mB 178) 36 = .ok (.iload 4, 2) := by decide +kernel
theorem d178_38 : decode (mB 178) 38 = .ok (.aload_n 0, 1) := by decide +kernel
theorem d178_39 : decode (mB 178) 39 = .ok (.getfield 137, 3) := by decide +kernel
theorem d178_42 : decode (mB 178) 42 = .ok (.bipush 32, 2) := by decide +kernel
theorem d178_44 : decode (mB 178) 44 = .ok (.iload_n 1, 1) := by decide +kernel
theorem d178_45 : decode (mB 178) 45 = .ok (.imul, 1) := by decide +kernel
theorem d178_46 : decode (mB 178) 46 = .ok (.iload 5, 2) := by decide +kernel
theorem d178_48 : decode (mB 178) 48 = .ok (.iadd, 1) := by decide +kernel
theorem d178_49 : decode (mB 178) 49 = .ok (.iaload, 1) := by decide +kernel
theorem d178_50 : decode (mB 178) 50 = .ok (.bipush 6, 2) := by decide +kernel
theorem d178_52 : decode (mB 178) 52 = .ok (.if_icmp .ne 7, 3) := by decide +kernel
theorem d178_55 : decode (mB 178) 55 = .ok (.iconst 1, 1) := by decide +kernel
theorem d178_56 : decode (mB 178) 56 = .ok (.goto 4, 3) := by decide +kernel
theorem d178_59 : decode (mB 178) 59 = .ok (.iconst 0, 1) := by decide +kernel
theorem d178_60 : decode (mB 178) 60 = .ok (.iadd, 1) := by decide +kernel
theorem d178_61 : decode (mB 178) 61 = .ok (.istore 4, 2) := by decide +kernel
theorem d178_63 : decode (mB 178) 63 = .ok (.iinc 5 1, 3) := by decide +kernel
theorem d178_66 : decode (mB 178) 66 = .ok (.goto (-41), 3) := by decide +kernel
theorem d178_69 : decode (mB 178) 69 = .ok (.iload 4, 2) := by decide +kernel
theorem d178_71 : decode (mB 178) 71 = .ok (.bipush 8, 2) := by decide +kernel
theorem d178_73 : decode (mB 178) 73 = .ok (.if_icmp .ne 5, 3) := by decide +kernel
theorem d178_76 : decode (mB 178) 76 = .ok (.iconst (-1), 1) := by decide +kernel
theorem d178_77 : decode (mB 178) 77 = .ok (.ireturn, 1) := by decide +kernel
theorem d178_78 : decode (mB 178) 78 = .ok (.aload_n 0, 1) := by decide +kernel
theorem d178_79 : decode (mB 178) 79 = .ok (.iload_n 1, 1) := by decide +kernel
theorem d178_80 : decode (mB 178) 80 = .ok (.bipush 6, 2) := by decide +kernel
theorem d178_82 : decode (mB 178) 82 = .ok (.lload_n 2, 1) := by decide +kernel
theorem d178_83 : decode (mB 178) 83 = .ok (.iconst (-1), 1) := by decide +kernel
theorem d178_84 : decode (mB 178) 84 = .ok (.iconst 0, 1) := by decide +kernel
theorem d178_85 : decode (mB 178) 85 = .ok (.invokevirtual 386, 3) := by decide +kernel
theorem d178_88 : decode (mB 178) 88 = .ok (.aload_n 0, 1) := by decide +kernel
theorem d178_89 : decode (mB 178) 89 = .ok (.getfield 134, 3) := by decide +kernel
theorem d178_92 : decode (mB 178) 92 = .ok (.iload_n 1, 1) := by decide +kernel
theorem d178_93 : decode (mB 178) 93 = .ok (.iaload, 1) := by decide +kernel
theorem d178_94 : decode (mB 178) 94 = .ok (.ireturn, 1) := by decide +kernel
theorem d180_0 : decode (mB 180) 0 = .ok (.iload_n 0, 1) := by decide +kernel
theorem d180_1 : decode (mB 180) 1 = .ok (.ifCond .lt 13, 3) := by decide +kernel
theorem d180_4 : decode (mB 180) 4 = .ok (.iload_n 0, 1) := by decide +kernel
theorem d180_5 : decode (mB 180) 5 = .ok (.bipush 8, 2) := by decide +kernel
theorem d180_7 : decode (mB 180) 7 = .ok (.if_icmp .ge 7, 3) := by decide +kernel
theorem d180_10 : decode (mB 180) 10 = .ok (.iconst 1, 1) := by decide +kernel
theorem d180_11 : decode (mB 180) 11 = .ok (.goto 4, 3) := by decide +kernel
theorem d180_14 : decode (mB 180) 14 = .ok (.iconst 0, 1) := by decide +kernel
theorem d180_15 : decode (mB 180) 15 = .ok (.ireturn, 1) := by decide +kernel
theorem d179_0 : decode (mB 179) 0 = .ok (.iload_n 1, 1) := by decide +kernel
theorem d179_1 : decode (mB 179) 1 = .ok (.invokestatic 429, 3) := by decide +kernel
theorem d179_4 : decode (mB 179) 4 = .ok (.ifCond .eq 12, 3) := by decide +kernel
theorem d179_7 : decode (mB 179) 7 = .ok (.aload_n 0, 1) := by decide +kernel
theorem d179_8 : decode (mB 179) 8 = .ok (.getfield 83, 3) := by decide +kernel
theorem d179_11 : decode (mB 179) 11 = .ok (.iload_n 1, 1) := by decide +kernel
theorem d179_12 : decode (mB 179) 12 = .ok (.baload, 1) := by decide +kernel
theorem d179_13 : decode (mB 179) 13 = .ok (.ifCond .eq 5, 3) := by decide +kernel
theorem d179_16 : decode (mB 179) 16 = .ok (.iconst (-1), 1) := by decide +kernel
theorem d179_17 : decode (mB 179) 17 = .ok (.ireturn, 1) := by decide +kernel
theorem d179_18 : decode (mB 179) 18 = .ok (.aload_n 0, 1) := by decide +kernel
theorem d179_19 : decode (mB 179) 19 = .ok (.getfield 83, 3) := by decide +kernel
theorem d179_22 : decode (mB 179) 22 = .ok (.iload_n 1, 1) := by decide +kernel
theorem d179_23 : decode (mB 179) 23 = .ok (.iconst 1, 1) := by decide +kernel
theorem d179_24 : decode (mB 179) 24 = .ok (.bastore, 1) := by decide +kernel
theorem d179_25 : decode (mB 179) 25 = .ok (.aload_n 0, 1) := by decide +kernel
theorem d179_26 : decode (mB 179) 26 = .ok (.getfield 86, 3) := by decide +kernel
theorem d179_29 : decode (mB 179) 29 = .ok (.iload_n 1, 1) := by decide +kernel
theorem d179_30 : decode (mB 179) 30 = .ok (.lload_n 2, 1) := by decide +kernel
theorem d179_31 : decode (mB 179) 31 = .ok (.lastore, 1) := by decide +kernel
theorem d179_32 : decode (mB 179) 32 = .ok (.iconst 1, 1) := by decide +kernel
theorem d179_33 : decode (mB 179) 33 = .ok (.ireturn, 1) := by decide +kernel
theorem d181_0 : decode (mB 181) 0 = .ok (.iload_n 1, 1) := by decide +kernel
theorem d181_1 : decode (mB 181) 1 = .ok (.invokestatic 429, 3) := by decide +kernel
theorem d181_4 : decode (mB 181) 4 = .ok (.ifCond .ne 7, 3) := by decide +kernel
theorem d181_7 : decode (mB 181) 7 = .ok (.iconst (-1), 1) := by decide +kernel
theorem d181_8 : decode (mB 181) 8 = .ok (.goto 17, 3) := by decide +kernel
theorem d181_11 : decode (mB 181) 11 = .ok (.aload_n 0, 1) := by decide +kernel
theorem d181_12 : decode (mB 181) 12 = .ok (.getfield 83, 3) := by decide +kernel
theorem d181_15 : decode (mB 181) 15 = .ok (.iload_n 1, 1) := by decide +kernel
theorem d181_16 : decode (mB 181) 16 = .ok (.baload, 1) := by decide +kernel
theorem d181_17 : decode (mB 181) 17 = .ok (.ifCond .eq 7, 3) := by decide +kernel
theorem d181_20 : decode (mB 181) 20 = .ok (.iconst 1, 1) := by decide +kernel
theorem d181_21 : decode (mB 181) 21 = .ok (.goto 4, 3) := by decide +kernel
theorem d181_24 : decode (mB 181) 24 = .ok (.iconst 0, 1) := by decide +kernel
theorem d181_25 : decode (mB 181) 25 = .ok (.ireturn, 1) := by decide +kernel
theorem d182_0 : decode (mB 182) 0 = .ok (.iload_n 1, 1) := by decide +kernel
theorem d182_1 : decode (mB 182) 1 = .ok (.invokestatic 429, 3) := by decide +kernel
theorem d182_4 : decode (mB 182) 4 = .ok (.ifCond .eq 21, 3) := by decide +kernel
theorem d182_7 : decode (mB 182) 7 = .ok (.aload_n 0, 1) := by decide +kernel
theorem d182_8 : decode (mB 182) 8 = .ok (.getfield 83, 3) := by decide +kernel
theorem d182_11 : decode (mB 182) 11 = .ok (.iload_n 1, 1) := by decide +kernel
theorem d182_12 : decode (mB 182) 12 = .ok (.baload, 1) := by decide +kernel
theorem d182_13 : decode (mB 182) 13 = .ok (.ifCond .eq 12, 3) := by decide +kernel
theorem d182_16 : decode (mB 182) 16 = .ok (.aload_n 0, 1) := by decide +kernel
theorem d182_17 : decode (mB 182) 17 = .ok (.getfield 86, 3) := by decide +kernel
theorem d182_20 : decode (mB 182) 20 = .ok (.iload_n 1, 1) := by decide +kernel
theorem d182_21 : decode (mB 182) 21 = .ok (.laload, 1) := by decide +kernel
theorem d182_22 : decode (mB 182) 22 = .ok (.goto 4, 3) := by decide +kernel
theorem d182_25 : decode (mB 182) 25 = .ok (.lconst 0, 1) := by decide +kernel
theorem d182_26 : decode (mB 182) 26 = .ok (.lreturn, 1) := by decide +kernel
theorem d183_0 : decode (mB 183) 0 = .ok (.iload_n 1, 1) := by decide +kernel
theorem d183_1 : decode (mB 183) 1 = .ok (.invokestatic 419, 3) := by decide +kernel
theorem d183_4 : decode (mB 183) 4 = .ok (.ifCond .eq 13, 3) := by decide +kernel
theorem d183_7 : decode (mB 183) 7 = .ok (.iload_n 2, 1) := by decide +kernel
theorem d183_8 : decode (mB 183) 8 = .ok (.ifCond .lt 9, 3) := by decide +kernel
theorem d183_11 : decode (mB 183) 11 = .ok (.iload_n 2, 1) := by decide +kernel
theorem d183_12 : decode (mB 183) 12 = .ok (.bipush 6, 2) := by decide +kernel
theorem d183_14 : decode (mB 183) 14 = .ok (.if_icmp .le 5, 3) := by decide +kernel
theorem d183_17 : decode (mB 183) 17 = .ok (.iconst (-1), 1) := by decide +kernel
theorem d183_18 : decode (mB 183) 18 = .ok (.ireturn, 1) := by decide +kernel
theorem d183_19 : decode (mB 183) 19 = .ok (.aload_n 0, 1) := by decide +kernel
theorem d183_20 : decode (mB 183) 20 = .ok (.getfield 89, 3) := by decide +kernel
theorem d183_23 : decode (mB 183) 23 = .ok (.iload_n 1, 1) := by decide +kernel
theorem d183_24 : decode (mB 183) 24 = .ok (.iaload, 1) := by decide +kernel
theorem d183_25 : decode (mB 183) 25 = .ok (.iconst 1, 1) := by decide +kernel
theorem d183_26 : decode (mB 183) 26 = .ok (.if_icmp .ne 7, 3) := by decide +kernel
theorem d183_29 : decode (mB 183) 29 = .ok (.iconst 1, 1) := by decide +kernel
theorem d183_30 : decode (mB 183) 30 = .ok (.goto 4, 3) := by decide +kernel
theorem d183_33 : decode (mB 183) 33 = .ok (.iconst 0, 1) := by decide +kernel
theorem d183_34 : decode (mB 183) 34 = .ok (.istore_n 3, 1) := by decide +kernel
theorem d183_35 : decode (mB 183) 35 = .ok (.iload_n 2, 1) := by decide +kernel
theorem d183_36 : decode (mB 183) 36 = .ok (.tableswitch 87 0 4 #[36, 43, 58, 65, 72], 36) := by decide +kernel
theorem d183_72 : decode (mB 183) 72 = .ok (.aload_n 0, 1) := by decide +kernel
theorem d183_73 : decode (mB 183) 73 = .ok (.getfield 89, 3) := by decide +kernel
theorem d183_76 : decode (mB 183) 76 = .ok (.iload_n 1, 1) := by decide +kernel
theorem d183_77 : decode (mB 183) 77 = .ok (.iaload, 1) := by decide +kernel
theorem d183_78 : decode (mB 183) 78 = .ok (.ireturn, 1) := by decide +kernel
theorem d183_79 : decode (mB 183) 79 = .ok (.iload_n 3, 1) := by decide +kernel
theorem d183_80 : decode (mB 183) 80 = .ok (.ifCond .eq 12, 3) := by decide +kernel
theorem d183_83 : decode (mB 183) 83 = .ok (.aload_n 0, 1) := by decide +kernel
theorem d183_84 : decode (mB 183) 84 = .ok (.getfield 95, 3) := by decide +kernel
theorem d183_87 : decode (mB 183) 87 = .ok (.iload_n 1, 1) := by decide +kernel
theorem d183_88 : decode (mB 183) 88 = .ok (.iaload, 1) := by decide +kernel
theorem d183_89 : decode (mB 183) 89 = .ok (.goto 4, 3) := by decide +kernel
theorem d183_92 : decode (mB 183) 92 = .ok (.iconst 0, 1) := by decide +kernel
theorem d183_93 : decode (mB 183) 93 = .ok (.ireturn, 1) := by decide +kernel
theorem d183_94 : decode (mB 183) 94 = .ok (.aload_n 0, 1) := by decide +kernel
theorem d183_95 : decode (mB 183) 95 = .ok (.getfield 98, 3) := by decide +kernel
theorem d183_98 : decode (mB 183) 98 = .ok (.iload_n 1, 1) := by decide +kernel
theorem d183_99 : decode (mB 183) 99 = .ok (.iaload, 1) := by decide +kernel
theorem d183_100 : decode (mB 183) 100 = .ok (.ireturn, 1) := by decide +kernel
theorem d183_101 : decode (mB 183) 101 = .ok (.aload_n 0, 1) := by decide +kernel
theorem d183_102 : decode (mB 183) 102 = .ok (.getfield 134, 3) := by decide +kernel
theorem d183_105 : decode (mB 183) 105 = .ok (.iload_n 1, 1) := by decide +kernel
theorem d183_106 : decode (mB 183) 106 = .ok (.iaload, 1) := by decide +kernel
theorem d183_107 : decode (mB 183) 107 = .ok (.ireturn, 1) := by decide +kernel
theorem d183_108 : decode (mB 183) 108 = .ok (.iload_n 3, 1) := by decide +kernel
theorem d183_109 : decode (mB 183) 109 = .ok (.ifCond .eq 12, 3) := by decide +kernel
theorem d183_112 : decode (mB 183) 112 = .ok (.aload_n 0, 1) := by decide +kernel
theorem d183_113 : decode (mB 183) 113 = .ok (.getfield 107, 3) := by decide +kernel
theorem d183_116 : decode (mB 183) 116 = .ok (.iload_n 1, 1) := by decide +kernel
theorem d183_117 : decode (mB 183) 117 = .ok (.iaload, 1) := by decide +kernel
theorem d183_118 : decode (mB 183) 118 = .ok (.goto 4, 3) := by decide +kernel
theorem d183_121 : decode (mB 183) 121 = .ok (.iconst 0, 1) := by decide +kernel
theorem d183_122 : decode (mB 183) 122 = .ok (.ireturn, 1) := by decide +kernel
theorem d183_123 : decode (mB 183) 123 = .ok (.iconst 0, 1) := by decide +kernel
theorem d183_124 : decode (mB 183) 124 = .ok (.istore 4, 2) := by decide +kernel
theorem d183_126 : decode (mB 183) 126 = .ok (.iconst 0, 1) := by decide +kernel
theorem d183_127 : decode (mB 183) 127 = .ok (.istore 5, 2) := by decide +kernel
theorem d183_129 : decode (mB 183) 129 = .ok (.iload 5, 2) := by decide +kernel
theorem d183_131 : decode (mB 183) 131 = .ok (.aload_n 0, 1) := by decide +kernel
theorem d183_132 : decode (mB 183) 132 = .ok (.getfield 107, 3) := by decide +kernel
theorem d183_135 : decode (mB 183) 135 = .ok (.iload_n 1, 1) := by decide +kernel
theorem d183_136 : decode (mB 183) 136 = .ok (.iaload, 1) := by decide +kernel
theorem d183_137 : decode (mB 183) 137 = .ok (.if_icmp .ge 72, 3) := by decide +kernel
theorem d183_140 : decode (mB 183) 140 = .ok (.iload_n 3, 1) := by decide +kernel
theorem d183_141 : decode (mB 183) 141 = .ok (.ifCond .eq 68, 3) := by decide +kernel
theorem d183_144 : decode (mB 183) 144 = .ok (.bipush 9, 2) := by decide +kernel
theorem d183_146 : decode (mB 183) 146 = .ok (.iload_n 1, 1) := by decide +kernel
theorem d183_147 : decode (mB 183) 147 = .ok (.imul, 1) := by decide +kernel
theorem d183_148 : decode (mB 183) 148 = .ok (.iload 5, 2) := by decide +kernel
theorem d183_150 : decode (mB 183) 150 = .ok (.iadd, 1) := by decide +kernel
theorem d183_151 : decode (mB 183) 151 = .ok (.istore 6, 2) := by decide +kernel
theorem d183_153 : decode (mB 183) 153 = .ok (.iload 4, 2) := by decide +kernel
theorem d183_155 : decode (mB 183) 155 = .ok (.iload_n 2, 1) := by decide +kernel
theorem d183_156 : decode (mB 183) 156 = .ok (.iconst 5, 1) := by decide +kernel
theorem d183_157 : decode (mB 183) 157 = .ok (.if_icmp .ne 28, 3) := by decide +kernel
theorem d183_160 : decode (mB 183) 160 = .ok (.aload_n 0, 1) := by decide +kernel
theorem d183_161 : decode (mB 183) 161 = .ok (.getfield 119, 3) := by decide +kernel
theorem d183_164 : decode (mB 183) 164 = .ok (.iload 6, 2) := by decide +kernel
theorem d183_166 : decode (mB 183) 166 = .ok (.laload, 1) := by decide +kernel
theorem d183_167 : decode (mB 183) 167 = .ok (.lconst 0, 1) := by decide +kernel
theorem d183_168 : decode (mB 183) 168 = .ok (.lcmp, 1) := by decide +kernel
theorem d183_169 : decode (mB 183) 169 = .ok (.ifCond .lt 30, 3) := by decide +kernel
theorem d183_172 : decode (mB 183) 172 = .ok (.aload_n 0, 1) := by decide +kernel
theorem d183_173 : decode (mB 183) 173 = .ok (.getfield 122, 3) := by decide +kernel
theorem d183_176 : decode (mB 183) 176 = .ok (.iload 6, 2) := by decide +kernel
theorem d183_178 : decode (mB 183) 178 = .ok (.baload, 1) := by decide +kernel
theorem d183_179 : decode (mB 183) 179 = .ok (.ifCond .ne 20, 3) := by decide +kernel
theorem d183_182 : decode (mB 183) 182 = .ok (.goto 13, 3) := by decide +kernel
theorem d183_185 : decode (mB 183) 185 = .ok (.aload_n 0, 1) := by decide +kernel
theorem d183_186 : decode (mB 183) 186 = .ok (.getfield 125, 3) := by decide +kernel
theorem d183_189 : decode (mB 183) 189 = .ok (.iload 6, 2) := by decide +kernel
theorem d183_191 : decode (mB 183) 191 = .ok (.iaload, 1) := by decide +kernel
theorem d183_192 : decode (mB 183) 192 = .ok (.ifCond .le 7, 3) := by decide +kernel
theorem d183_195 : decode (mB 183) 195 = .ok (.iconst 1, 1) := by decide +kernel
theorem d183_196 : decode (mB 183) 196 = .ok (.goto 4, 3) := by decide +kernel
theorem d183_199 : decode (mB 183) 199 = .ok (.iconst 0, 1) := by decide +kernel
theorem d183_200 : decode (mB 183) 200 = .ok (.iadd, 1) := by decide +kernel
theorem d183_201 : decode (mB 183) 201 = .ok (.istore 4, 2) := by decide +kernel
theorem d183_203 : decode (mB 183) 203 = .ok (.iinc 5 1, 3) := by decide +kernel
theorem d183_206 : decode (mB 183) 206 = .ok (.goto (-77), 3) := by decide +kernel
theorem d183_209 : decode (mB 183) 209 = .ok (.iload_n 2, 1) := by decide +kernel
theorem d183_210 : decode (mB 183) 210 = .ok (.iconst 5, 1) := by decide +kernel
theorem d183_211 : decode (mB 183) 211 = .ok (.if_icmp .eq 8, 3) := by decide +kernel
theorem d183_214 : decode (mB 183) 214 = .ok (.iload 4, 2) := by decide +kernel
theorem d183_216 : decode (mB 183) 216 = .ok (.ifCond .ne 8, 3) := by decide +kernel
theorem d183_219 : decode (mB 183) 219 = .ok (.iload 4, 2) := by decide +kernel
theorem d183_221 : decode (mB 183) 221 = .ok (.goto 4, 3) := by decide +kernel
theorem d183_224 : decode (mB 183) 224 = .ok (.iconst 1, 1) := by decide +kernel
theorem d183_225 : decode (mB 183) 225 = .ok (.ireturn, 1) := by decide +kernel
theorem d184_0 : decode (mB 184) 0 = .ok (.iload_n 1, 1) := by decide +kernel
end
section
/-! what stands at each place of the code -/
theorem d184_1 : decode (mB 184) 1 = .ok (.invokestatic 419, 3) := by decide +kernel
theorem d184_4 : decode (mB 184) 4 = .ok (.ifCond .eq 12, 3) := by decide +kernel
theorem d184_7 : decode (mB 184) 7 = .ok (.aload_n 0, 1) := by decide +kernel
theorem d184_8 : decode (mB 184) 8 = .ok (.getfield 101, 3) := by decide +kernel
theorem d184_11 : decode (mB 184) 11 = .ok (.iload_n 1, 1) := by decide +kernel
theorem d184_12 : decode (mB 184) 12 = .ok (.laload, 1) := by decide +kernel
theorem d184_13 : decode (mB 184) 13 = .ok (.goto 4, 3) := by decide +kernel
theorem d184_16 : decode (mB 184) 16 = .ok (.lconst 0, 1) := by decide +kernel
theorem d184_17 : decode (mB 184) 17 = .ok (.lreturn, 1) := by decide +kernel
theorem d185_0 : decode (mB 185) 0 = .ok (.iload_n 1, 1) := by decide +kernel
theorem d185_1 : decode (mB 185) 1 = .ok (.invokestatic 419, 3) := by decide +kernel
theorem d185_4 : decode (mB 185) 4 = .ok (.ifCond .eq 27, 3) := by decide +kernel
theorem d185_7 : decode (mB 185) 7 = .ok (.iload_n 2, 1) := by decide +kernel
theorem d185_8 : decode (mB 185) 8 = .ok (.ifCond .lt 23, 3) := by decide +kernel
theorem d185_11 : decode (mB 185) 11 = .ok (.iload_n 2, 1) := by decide +kernel
theorem d185_12 : decode (mB 185) 12 = .ok (.bipush 10, 2) := by decide +kernel
theorem d185_14 : decode (mB 185) 14 = .ok (.if_icmp .ge 17, 3) := by decide +kernel
theorem d185_17 : decode (mB 185) 17 = .ok (.aload_n 0, 1) := by decide +kernel
theorem d185_18 : decode (mB 185) 18 = .ok (.getfield 104, 3) := by decide +kernel
theorem d185_21 : decode (mB 185) 21 = .ok (.bipush 10, 2) := by decide +kernel
theorem d185_23 : decode (mB 185) 23 = .ok (.iload_n 1, 1) := by decide +kernel
theorem d185_24 : decode (mB 185) 24 = .ok (.imul, 1) := by decide +kernel
theorem d185_25 : decode (mB 185) 25 = .ok (.iload_n 2, 1) := by decide +kernel
theorem d185_26 : decode (mB 185) 26 = .ok (.iadd, 1) := by decide +kernel
theorem d185_27 : decode (mB 185) 27 = .ok (.laload, 1) := by decide +kernel
theorem d185_28 : decode (mB 185) 28 = .ok (.goto 4, 3) := by decide +kernel
theorem d185_31 : decode (mB 185) 31 = .ok (.lconst 0, 1) := by decide +kernel
theorem d185_32 : decode (mB 185) 32 = .ok (.lreturn, 1) := by decide +kernel
theorem d187_0 : decode (mB 187) 0 = .ok (.iload_n 1, 1) := by decide +kernel
theorem d187_1 : decode (mB 187) 1 = .ok (.invokestatic 419, 3) := by decide +kernel
theorem d187_4 : decode (mB 187) 4 = .ok (.ifCond .eq 21, 3) := by decide +kernel
theorem d187_7 : decode (mB 187) 7 = .ok (.iload_n 2, 1) := by decide +kernel
theorem d187_8 : decode (mB 187) 8 = .ok (.ifCond .lt 17, 3) := by decide +kernel
theorem d187_11 : decode (mB 187) 11 = .ok (.iload_n 2, 1) := by decide +kernel
theorem d187_12 : decode (mB 187) 12 = .ok (.aload_n 0, 1) := by decide +kernel
theorem d187_13 : decode (mB 187) 13 = .ok (.getfield 134, 3) := by decide +kernel
theorem d187_16 : decode (mB 187) 16 = .ok (.iload_n 1, 1) := by decide +kernel
theorem d187_17 : decode (mB 187) 17 = .ok (.iaload, 1) := by decide +kernel
theorem d187_18 : decode (mB 187) 18 = .ok (.if_icmp .ge 7, 3) := by decide +kernel
theorem d187_21 : decode (mB 187) 21 = .ok (.iconst 1, 1) := by decide +kernel
theorem d187_22 : decode (mB 187) 22 = .ok (.goto 4, 3) := by decide +kernel
theorem d187_25 : decode (mB 187) 25 = .ok (.iconst 0, 1) := by decide +kernel
theorem d187_26 : decode (mB 187) 26 = .ok (.ireturn, 1) := by decide +kernel
theorem d186_0 : decode (mB 186) 0 = .ok (.aload_n 0, 1) := by decide +kernel
theorem d186_1 : decode (mB 186) 1 = .ok (.iload_n 1, 1) := by decide +kernel
theorem d186_2 : decode (mB 186) 2 = .ok (.iload_n 2, 1) := by decide +kernel
theorem d186_3 : decode (mB 186) 3 = .ok (.invokevirtual 432, 3) := by decide +kernel
theorem d186_6 : decode (mB 186) 6 = .ok (.ifCond .eq 12, 3) := by decide +kernel
theorem d186_9 : decode (mB 186) 9 = .ok (.iload_n 3, 1) := by decide +kernel
theorem d186_10 : decode (mB 186) 10 = .ok (.ifCond .lt 8, 3) := by decide +kernel
theorem d186_13 : decode (mB 186) 13 = .ok (.iload_n 3, 1) := by decide +kernel
theorem d186_14 : decode (mB 186) 14 = .ok (.iconst 1, 1) := by decide +kernel
theorem d186_15 : decode (mB 186) 15 = .ok (.if_icmp .le 5, 3) := by decide +kernel
theorem d186_18 : decode (mB 186) 18 = .ok (.iconst (-1), 1) := by decide +kernel
theorem d186_19 : decode (mB 186) 19 = .ok (.ireturn, 1) := by decide +kernel
theorem d186_20 : decode (mB 186) 20 = .ok (.bipush 32, 2) := by decide +kernel
theorem d186_22 : decode (mB 186) 22 = .ok (.iload_n 1, 1) := by decide +kernel
theorem d186_23 : decode (mB 186) 23 = .ok (.imul, 1) := by decide +kernel
theorem d186_24 : decode (mB 186) 24 = .ok (.iload_n 2, 1) := by decide +kernel
theorem d186_25 : decode (mB 186) 25 = .ok (.iadd, 1) := by decide +kernel
theorem d186_26 : decode (mB 186) 26 = .ok (.istore 4, 2) := by decide +kernel
theorem d186_28 : decode (mB 186) 28 = .ok (.iload_n 3, 1) := by decide +kernel
theorem d186_29 : decode (mB 186) 29 = .ok (.ifCond .ne 13, 3) := by decide +kernel
theorem d186_32 : decode (mB 186) 32 = .ok (.aload_n 0, 1) := by decide +kernel
theorem d186_33 : decode (mB 186) 33 = .ok (.getfield 137, 3) := by decide +kernel
theorem d186_36 : decode (mB 186) 36 = .ok (.iload 4, 2) := by decide +kernel
theorem d186_38 : decode (mB 186) 38 = .ok (.iaload, 1) := by decide +kernel
theorem d186_39 : decode (mB 186) 39 = .ok (.goto 28, 3) := by decide +kernel
theorem d186_42 : decode (mB 186) 42 = .ok (.aload_n 0, 1) := by decide +kernel
theorem d186_43 : decode (mB 186) 43 = .ok (.getfield 137, 3) := by decide +kernel
theorem d186_46 : decode (mB 186) 46 = .ok (.iload 4, 2) := by decide +kernel
theorem d186_48 : decode (mB 186) 48 = .ok (.iaload, 1) := by decide +kernel
theorem d186_49 : decode (mB 186) 49 = .ok (.bipush 7, 2) := by decide +kernel
theorem d186_51 : decode (mB 186) 51 = .ok (.if_icmp .ne 15, 3) := by decide +kernel
theorem d186_54 : decode (mB 186) 54 = .ok (.aload_n 0, 1) := by decide +kernel
theorem d186_55 : decode (mB 186) 55 = .ok (.getfield 143, 3) := by decide +kernel
theorem d186_58 : decode (mB 186) 58 = .ok (.iload 4, 2) := by decide +kernel
theorem d186_60 : decode (mB 186) 60 = .ok (.iaload, 1) := by decide +kernel
theorem d186_61 : decode (mB 186) 61 = .ok (.iconst 1, 1) := by decide +kernel
theorem d186_62 : decode (mB 186) 62 = .ok (.iadd, 1) := by decide +kernel
theorem d186_63 : decode (mB 186) 63 = .ok (.goto 4, 3) := by decide +kernel
theorem d186_66 : decode (mB 186) 66 = .ok (.iconst 0, 1) := by decide +kernel
theorem d186_67 : decode (mB 186) 67 = .ok (.ireturn, 1) := by decide +kernel
theorem d188_0 : decode (mB 188) 0 = .ok (.aload_n 0, 1) := by decide +kernel
theorem d188_1 : decode (mB 188) 1 = .ok (.iload_n 1, 1) := by decide +kernel
theorem d188_2 : decode (mB 188) 2 = .ok (.iload_n 2, 1) := by decide +kernel
theorem d188_3 : decode (mB 188) 3 = .ok (.invokevirtual 432, 3) := by decide +kernel
theorem d188_6 : decode (mB 188) 6 = .ok (.ifCond .eq 17, 3) := by decide +kernel
theorem d188_9 : decode (mB 188) 9 = .ok (.aload_n 0, 1) := by decide +kernel
theorem d188_10 : decode (mB 188) 10 = .ok (.getfield 140, 3) := by decide +kernel
theorem d188_13 : decode (mB 188) 13 = .ok (.bipush 32, 2) := by decide +kernel
theorem d188_15 : decode (mB 188) 15 = .ok (.iload_n 1, 1) := by decide +kernel
theorem d188_16 : decode (mB 188) 16 = .ok (.imul, 1) := by decide +kernel
theorem d188_17 : decode (mB 188) 17 = .ok (.iload_n 2, 1) := by decide +kernel
theorem d188_18 : decode (mB 188) 18 = .ok (.iadd, 1) := by decide +kernel
theorem d188_19 : decode (mB 188) 19 = .ok (.laload, 1) := by decide +kernel
theorem d188_20 : decode (mB 188) 20 = .ok (.goto 4, 3) := by decide +kernel
theorem d188_23 : decode (mB 188) 23 = .ok (.lconst 0, 1) := by decide +kernel
theorem d188_24 : decode (mB 188) 24 = .ok (.lreturn, 1) := by decide +kernel
theorem d191_0 : decode (mB 191) 0 = .ok (.aload_n 0, 1) := by decide +kernel
theorem d191_1 : decode (mB 191) 1 = .ok (.getfield 92, 3) := by decide +kernel
theorem d191_4 : decode (mB 191) 4 = .ok (.bipush 6, 2) := by decide +kernel
theorem d191_6 : decode (mB 191) 6 = .ok (.aload_n 0, 1) := by decide +kernel
theorem d191_7 : decode (mB 191) 7 = .ok (.getfield 92, 3) := by decide +kernel
theorem d191_10 : decode (mB 191) 10 = .ok (.iload_n 1, 1) := by decide +kernel
theorem d191_11 : decode (mB 191) 11 = .ok (.iaload, 1) := by decide +kernel
theorem d191_12 : decode (mB 191) 12 = .ok (.iastore, 1) := by decide +kernel
theorem d191_13 : decode (mB 191) 13 = .ok (.aload_n 0, 1) := by decide +kernel
theorem d191_14 : decode (mB 191) 14 = .ok (.getfield 95, 3) := by decide +kernel
theorem d191_17 : decode (mB 191) 17 = .ok (.bipush 6, 2) := by decide +kernel
theorem d191_19 : decode (mB 191) 19 = .ok (.aload_n 0, 1) := by decide +kernel
theorem d191_20 : decode (mB 191) 20 = .ok (.getfield 95, 3) := by decide +kernel
theorem d191_23 : decode (mB 191) 23 = .ok (.iload_n 1, 1) := by decide +kernel
theorem d191_24 : decode (mB 191) 24 = .ok (.iaload, 1) := by decide +kernel
theorem d191_25 : decode (mB 191) 25 = .ok (.iastore, 1) := by decide +kernel
theorem d191_26 : decode (mB 191) 26 = .ok (.aload_n 0, 1) := by decide +kernel
theorem d191_27 : decode (mB 191) 27 = .ok (.getfield 107, 3) := by decide +kernel
theorem d191_30 : decode (mB 191) 30 = .ok (.bipush 6, 2) := by decide +kernel
theorem d191_32 : decode (mB 191) 32 = .ok (.aload_n 0, 1) := by decide +kernel
theorem d191_33 : decode (mB 191) 33 = .ok (.getfield 107, 3) := by decide +kernel
theorem d191_36 : decode (mB 191) 36 = .ok (.iload_n 1, 1) := by decide +kernel
theorem d191_37 : decode (mB 191) 37 = .ok (.iaload, 1) := by decide +kernel
theorem d191_38 : decode (mB 191) 38 = .ok (.iastore, 1) := by decide +kernel
theorem d191_39 : decode (mB 191) 39 = .ok (.aload_n 0, 1) := by decide +kernel
theorem d191_40 : decode (mB 191) 40 = .ok (.getfield 134, 3) := by decide +kernel
theorem d191_43 : decode (mB 191) 43 = .ok (.bipush 6, 2) := by decide +kernel
theorem d191_45 : decode (mB 191) 45 = .ok (.aload_n 0, 1) := by decide +kernel
theorem d191_46 : decode (mB 191) 46 = .ok (.getfield 134, 3) := by decide +kernel
theorem d191_49 : decode (mB 191) 49 = .ok (.iload_n 1, 1) := by decide +kernel
theorem d191_50 : decode (mB 191) 50 = .ok (.iaload, 1) := by decide +kernel
theorem d191_51 : decode (mB 191) 51 = .ok (.iastore, 1) := by decide +kernel
theorem d191_52 : decode (mB 191) 52 = .ok (.iconst 0, 1) := by decide +kernel
theorem d191_53 : decode (mB 191) 53 = .ok (.istore_n 2, 1) := by decide +kernel
theorem d191_54 : decode (mB 191) 54 = .ok (.iload_n 2, 1) := by decide +kernel
theorem d191_55 : decode (mB 191) 55 = .ok (.aload_n 0, 1) := by decide +kernel
theorem d191_56 : decode (mB 191) 56 = .ok (.getfield 107, 3) := by decide +kernel
theorem d191_59 : decode (mB 191) 59 = .ok (.iload_n 1, 1) := by decide +kernel
theorem d191_60 : decode (mB 191) 60 = .ok (.iaload, 1) := by decide +kernel
theorem d191_61 : decode (mB 191) 61 = .ok (.if_icmp .ge 126, 3) := by decide +kernel
theorem d191_64 : decode (mB 191) 64 = .ok (.bipush 9, 2) := by decide +kernel
theorem d191_66 : decode (mB 191) 66 = .ok (.iload_n 1, 1) := by decide +kernel
theorem d191_67 : decode (mB 191) 67 = .ok (.imul, 1) := by decide +kernel
theorem d191_68 : decode (mB 191) 68 = .ok (.iload_n 2, 1) := by decide +kernel
theorem d191_69 : decode (mB 191) 69 = .ok (.iadd, 1) := by decide +kernel
theorem d191_70 : decode (mB 191) 70 = .ok (.istore_n 3, 1) := by decide +kernel
theorem d191_71 : decode (mB 191) 71 = .ok (.bipush 54, 2) := by decide +kernel
theorem d191_73 : decode (mB 191) 73 = .ok (.iload_n 2, 1) := by decide +kernel
theorem d191_74 : decode (mB 191) 74 = .ok (.iadd, 1) := by decide +kernel
theorem d191_75 : decode (mB 191) 75 = .ok (.istore 4, 2) := by decide +kernel
theorem d191_77 : decode (mB 191) 77 = .ok (.aload_n 0, 1) := by decide +kernel
theorem d191_78 : decode (mB 191) 78 = .ok (.getfield 110, 3) := by decide +kernel
theorem d191_81 : decode (mB 191) 81 = .ok (.iload 4, 2) := by decide +kernel
theorem d191_83 : decode (mB 191) 83 = .ok (.aload_n 0, 1) := by decide +kernel
theorem d191_84 : decode (mB 191) 84 = .ok (.getfield 110, 3) := by decide +kernel
theorem d191_87 : decode (mB 191) 87 = .ok (.iload_n 3, 1) := by decide +kernel
theorem d191_88 : decode (mB 191) 88 = .ok (.iaload, 1) := by decide +kernel
theorem d191_89 : decode (mB 191) 89 = .ok (.iastore, 1) := by decide +kernel
theorem d191_90 : decode (mB 191) 90 = .ok (.aload_n 0, 1) := by decide +kernel
theorem d191_91 : decode (mB 191) 91 = .ok (.getfield 113, 3) := by decide +kernel
theorem d191_94 : decode (mB 191) 94 = .ok (.iload 4, 2) := by decide +kernel
theorem d191_96 : decode (mB 191) 96 = .ok (.aload_n 0, 1) := by decide +kernel
theorem d191_97 : decode (mB 191) 97 = .ok (.getfield 113, 3) := by decide +kernel
theorem d191_100 : decode (mB 191) 100 = .ok (.iload_n 3, 1) := by decide +kernel
theorem d191_101 : decode (mB 191) 101 = .ok (.iaload, 1) := by decide +kernel
theorem d191_102 : decode (mB 191) 102 = .ok (.iastore, 1) := by decide +kernel
theorem d191_103 : decode (mB 191) 103 = .ok (.aload_n 0, 1) := by decide +kernel
theorem d191_104 : decode (mB 191) 104 = .ok (.getfield 116, 3) := by decide +kernel
theorem d191_107 : decode (mB 191) 107 = .ok (.iload 4, 2) := by decide +kernel
theorem d191_109 : decode (mB 191) 109 = .ok (.aload_n 0, 1) := by decide +kernel
theorem d191_110 : decode (mB 191) 110 = .ok (.getfield 116, 3) := by decide +kernel
theorem d191_113 : decode (mB 191) 113 = .ok (.iload_n 3, 1) := by decide +kernel
theorem d191_114 : decode (mB 191) 114 = .ok (.iaload, 1) := by decide +kernel
theorem d191_115 : decode (mB 191) 115 = .ok (.iastore, 1) := by decide +kernel
theorem d191_116 : decode (mB 191) 116 = .ok (.aload_n 0, 1) := by decide +kernel
theorem d191_117 : decode (mB 191) 117 = .ok (.getfield 119, 3) := by decide +kernel
theorem d191_120 : decode (mB 191) 120 = .ok (.iload 4, 2) := by decide +kernel
theorem d191_122 : decode (mB 191) 122 = .ok (.aload_n 0, 1) := by decide +kernel
theorem d191_123 : decode (mB 191) 123 = .ok (.getfield 119, 3) := by decide +kernel
theorem d191_126 : decode (mB 191) 126 = .ok (.iload_n 3, 1) := by decide +kernel
theorem d191_127 : decode (mB 191) 127 = .ok (.laload, 1) := by decide +kernel
theorem d191_128 : decode (mB 191) 128 = .ok (.lastore, 1) := by decide +kernel
theorem d191_129 : decode (mB 191) 129 = .ok (.aload_n 0, 1) := by decide +kernel
theorem d191_130 : decode (mB 191) 130 = .ok (.getfield 122, 3) := by decide +kernel
theorem d191_133 : decode (mB 191) 133 = .ok (.iload 4, 2) := by decide +kernel
theorem d191_135 : decode (mB 191) 135 = .ok (.aload_n 0, 1) := by decide +kernel
theorem d191_136 : decode (mB 191) 136 = .ok (.getfield 122, 3) := by decide +kernel
theorem d191_139 : decode (mB 191) 139 = .ok (.iload_n 3, 1) := by decide +kernel
theorem d191_140 : decode (mB 191) 140 = .ok (.baload, 1) := by decide +kernel
theorem d191_141 : decode (mB 191) 141 = .ok (.bastore, 1) := by decide +kernel
theorem d191_142 : decode (mB 191) 142 = .ok (.aload_n 0, 1) := by decide +kernel
theorem d191_143 : decode (mB 191) 143 = .ok (.getfield 125, 3) := by decide +kernel
theorem d191_146 : decode (mB 191) 146 = .ok (.iload 4, 2) := by decide +kernel
theorem d191_148 : decode (mB 191) 148 = .ok (.aload_n 0, 1) := by decide +kernel
theorem d191_149 : decode (mB 191) 149 = .ok (.getfield 125, 3) := by decide +kernel
theorem d191_152 : decode (mB 191) 152 = .ok (.iload_n 3, 1) := by decide +kernel
theorem d191_153 : decode (mB 191) 153 = .ok (.iaload, 1) := by decide +kernel
theorem d191_154 : decode (mB 191) 154 = .ok (.iastore, 1) := by decide +kernel
theorem d191_155 : decode (mB 191) 155 = .ok (.aload_n 0, 1) := by decide +kernel
theorem d191_156 : decode (mB 191) 156 = .ok (.getfield 128, 3) := by decide +kernel
theorem d191_159 : decode (mB 191) 159 = .ok (.iload 4, 2) := by decide +kernel
theorem d191_161 : decode (mB 191) 161 = .ok (.aload_n 0, 1) := by decide +kernel
theorem d191_162 : decode (mB 191) 162 = .ok (.getfield 128, 3) := by decide +kernel
theorem d191_165 : decode (mB 191) 165 = .ok (.iload_n 3, 1) := by decide +kernel
theorem d191_166 : decode (mB 191) 166 = .ok (.laload, 1) := by decide +kernel
theorem d191_167 : decode (mB 191) 167 = .ok (.lastore, 1) := by decide +kernel
theorem d191_168 : decode (mB 191) 168 = .ok (.aload_n 0, 1) := by decide +kernel
theorem d191_169 : decode (mB 191) 169 = .ok (.getfield 131, 3) := by decide +kernel
theorem d191_172 : decode (mB 191) 172 = .ok (.iload 4, 2) := by decide +kernel
theorem d191_174 : decode (mB 191) 174 = .ok (.aload_n 0, 1) := by decide +kernel
theorem d191_175 : decode (mB 191) 175 = .ok (.getfield 131, 3) := by decide +kernel
theorem d191_178 : decode (mB 191) 178 = .ok (.iload_n 3, 1) := by decide +kernel
theorem d191_179 : decode (mB 191) 179 = .ok (.iaload, 1) := by decide +kernel
theorem d191_180 : decode (mB 191) 180 = .ok (.iastore, 1) := by decide +kernel
theorem d191_181 : decode (mB 191) 181 = .ok (.iinc 2 1, 3) := by decide +kernel
theorem d191_184 : decode (mB 191) 184 = .ok (.goto (-130), 3) := by decide +kernel
theorem d191_187 : decode (mB 191) 187 = .ok (.iconst 0, 1) := by decide +kernel
theorem d191_188 : decode (mB 191) 188 = .ok (.istore_n 2, 1) := by decide +kernel
theorem d191_189 : decode (mB 191) 189 = .ok (.iload_n 2, 1) := by decide +kernel
theorem d191_190 : decode (mB 191) 190 = .ok (.aload_n 0, 1) := by decide +kernel
theorem d191_191 : decode (mB 191) 191 = .ok (.getfield 134, 3) := by decide +kernel
theorem d191_194 : decode (mB 191) 194 = .ok (.iload_n 1, 1) := by decide +kernel
theorem d191_195 : decode (mB 191) 195 = .ok (.iaload, 1) := by decide +kernel
theorem d191_196 : decode (mB 191) 196 = .ok (.if_icmp .ge 75, 3) := by decide +kernel
theorem d191_199 : decode (mB 191) 199 = .ok (.bipush 32, 2) := by decide +kernel
theorem d191_201 : decode (mB 191) 201 = .ok (.iload_n 1, 1) := by decide +kernel
theorem d191_202 : decode (mB 191) 202 = .ok (.imul, 1) := by decide +kernel
theorem d191_203 : decode (mB 191) 203 = .ok (.iload_n 2, 1) := by decide +kernel
theorem d191_204 : decode (mB 191) 204 = .ok (.iadd, 1) := by decide +kernel
theorem d191_205 : decode (mB 191) 205 = .ok (.istore_n 3, 1) := by decide +kernel
theorem d191_206 : decode (mB 191) 206 = .ok (.sipush 192, 3) := by decide +kernel
theorem d191_209 : decode (mB 191) 209 = .ok (.iload_n 2, 1) := by decide +kernel
theorem d191_210 : decode (mB 191) 210 = .ok (.iadd, 1) := by decide +kernel
theorem d191_211 : decode (mB 191) 211 = .ok (.istore 4, 2) := by decide +kernel
theorem d191_213 : decode (mB 191) 213 = .ok (.aload_n 0, 1) := by decide +kernel
theorem d191_214 : decode (mB 191) 214 = .ok (.getfield 137, 3) := by decide +kernel
theorem d191_217 : decode (mB 191) 217 = .ok (.iload 4, 2) := by decide +kernel
theorem d191_219 : decode (mB 191) 219 = .ok (.aload_n 0, 1) := by decide +kernel
theorem d191_220 : decode (mB 191) 220 = .ok (.getfield 137, 3) := by decide +kernel
theorem d191_223 : decode (mB 191) 223 = .ok (.iload_n 3, 1) := by decide +kernel
theorem d191_224 : decode (mB 191) 224 = .ok (.iaload, 1) := by decide +kernel
theorem d191_225 : decode (mB 191) 225 = .ok (.iastore, 1) := by decide +kernel
theorem d191_226 : decode (mB 191) 226 = .ok (.aload_n 0, 1) := by decide +kernel
theorem d191_227 : decode (mB 191) 227 = .ok (.getfield 140, 3) := by decide +kernel
theorem d191_230 : decode (mB 191) 230 = .ok (.iload 4, 2) := by decide +kernel
theorem d191_232 : decode (mB 191) 232 = .ok (.aload_n 0, 1) := by decide +kernel
theorem d191_233 : decode (mB 191) 233 = .ok (.getfield 140, 3) := by decide +kernel
theorem d191_236 : decode (mB 191) 236 = .ok (.iload_n 3, 1) := by decide +kernel
theorem d191_237 : decode (mB 191) 237 = .ok (.laload, 1) := by decide +kernel
theorem d191_238 : decode (mB 191) 238 = .ok (.lastore, 1) := by decide +kernel
theorem d191_239 : decode (mB 191) 239 = .ok (.aload_n 0, 1) := by decide +kernel
theorem d191_240 : decode (mB 191) 240 = .ok (.getfield 143, 3) := by decide +kernel
theorem d191_243 : decode (mB 191) 243 = .ok (.iload 4, 2) := by decide +kernel
theorem d191_245 : decode (mB 191) 245 = .ok (.aload_n 0, 1) := by decide +kernel
theorem d191_246 : decode (mB 191) 246 = .ok (.getfield 143, 3) := by decide +kernel
theorem d191_249 : decode (mB 191) 249 = .ok (.iload_n 3, 1) := by decide +kernel
theorem d191_250 : decode (mB 191) 250 = .ok (.iaload, 1) := by decide +kernel
theorem d191_251 : decode (mB 191) 251 = .ok (.iastore, 1) := by decide +kernel
theorem d191_252 : decode (mB 191) 252 = .ok (.aload_n 0, 1) := by decide +kernel
theorem d191_253 : decode (mB 191) 253 = .ok (.getfield 146, 3) := by decide +kernel
theorem d191_256 : decode (mB 191) 256 = .ok (.iload 4, 2) := by decide +kernel
theorem d191_258 : decode (mB 191) 258 = .ok (.aload_n 0, 1) := by decide +kernel
theorem d191_259 : decode (mB 191) 259 = .ok (.getfield 146, 3) := by decide +kernel
theorem d191_262 : decode (mB 191) 262 = .ok (.iload_n 3, 1) := by decide +kernel
theorem d191_263 : decode (mB 191) 263 = .ok (.iaload, 1) := by decide +kernel
theorem d191_264 : decode (mB 191) 264 = .ok (.iastore, 1) := by decide +kernel
theorem d191_265 : decode (mB 191) 265 = .ok (.iinc 2 1, 3) := by decide +kernel
theorem d191_268 : decode (mB 191) 268 = .ok (.goto (-79), 3) := by decide +kernel
theorem d191_271 : decode (mB 191) 271 = .ok (.return_, 1) := by decide +kernel
theorem d190_0 : decode (mB 190) 0 = .ok (.aload_n 0, 1) := by decide +kernel
theorem d190_1 : decode (mB 190) 1 = .ok (.iload_n 1, 1) := by decide +kernel
theorem d190_2 : decode (mB 190) 2 = .ok (.invokevirtual 435, 3) := by decide +kernel
theorem d190_5 : decode (mB 190) 5 = .ok (.aload_n 0, 1) := by decide +kernel
theorem d190_6 : decode (mB 190) 6 = .ok (.bipush 6, 2) := by decide +kernel
theorem d190_8 : decode (mB 190) 8 = .ok (.invokevirtual 393, 3) := by decide +kernel
theorem d190_11 : decode (mB 190) 11 = .ok (.ifCond .ne 33, 3) := by decide +kernel
theorem d190_14 : decode (mB 190) 14 = .ok (.aload_n 0, 1) := by decide +kernel
theorem d190_15 : decode (mB 190) 15 = .ok (.getfield 95, 3) := by decide +kernel
theorem d190_18 : decode (mB 190) 18 = .ok (.bipush 6, 2) := by decide +kernel
theorem d190_20 : decode (mB 190) 20 = .ok (.iaload, 1) := by decide +kernel
theorem d190_21 : decode (mB 190) 21 = .ok (.ifCond .ne 13, 3) := by decide +kernel
theorem d190_24 : decode (mB 190) 24 = .ok (.aload_n 0, 1) := by decide +kernel
theorem d190_25 : decode (mB 190) 25 = .ok (.getfield 134, 3) := by decide +kernel
theorem d190_28 : decode (mB 190) 28 = .ok (.bipush 6, 2) := by decide +kernel
theorem d190_30 : decode (mB 190) 30 = .ok (.iaload, 1) := by decide +kernel
theorem d190_31 : decode (mB 190) 31 = .ok (.ifCond .gt 13, 3) := by decide +kernel
theorem d190_34 : decode (mB 190) 34 = .ok (.aload_n 0, 1) := by decide +kernel
theorem d190_35 : decode (mB 190) 35 = .ok (.getfield 92, 3) := by decide +kernel
theorem d190_38 : decode (mB 190) 38 = .ok (.bipush 6, 2) := by decide +kernel
theorem d190_40 : decode (mB 190) 40 = .ok (.iaload, 1) := by decide +kernel
theorem d190_41 : decode (mB 190) 41 = .ok (.ifCond .ge 5, 3) := by decide +kernel
theorem d190_44 : decode (mB 190) 44 = .ok (.iconst 1, 1) := by decide +kernel
theorem d190_45 : decode (mB 190) 45 = .ok (.ireturn, 1) := by decide +kernel
theorem d190_46 : decode (mB 190) 46 = .ok (.aload_n 0, 1) := by decide +kernel
theorem d190_47 : decode (mB 190) 47 = .ok (.getfield 92, 3) := by decide +kernel
theorem d190_50 : decode (mB 190) 50 = .ok (.bipush 6, 2) := by decide +kernel
theorem d190_52 : decode (mB 190) 52 = .ok (.iaload, 1) := by decide +kernel
theorem d190_53 : decode (mB 190) 53 = .ok (.istore_n 2, 1) := by decide +kernel
theorem d190_54 : decode (mB 190) 54 = .ok (.aload_n 0, 1) := by decide +kernel
theorem d190_55 : decode (mB 190) 55 = .ok (.getfield 33, 3) := by decide +kernel
theorem d190_58 : decode (mB 190) 58 = .ok (.iload_n 2, 1) := by decide +kernel
theorem d190_59 : decode (mB 190) 59 = .ok (.iaload, 1) := by decide +kernel
theorem d190_60 : decode (mB 190) 60 = .ok (.iconst 4, 1) := by decide +kernel
theorem d190_61 : decode (mB 190) 61 = .ok (.if_icmp .ne 17, 3) := by decide +kernel
theorem d190_64 : decode (mB 190) 64 = .ok (.aload_n 0, 1) := by decide +kernel
theorem d190_65 : decode (mB 190) 65 = .ok (.getfield 83, 3) := by decide +kernel
theorem d190_68 : decode (mB 190) 68 = .ok (.aload_n 0, 1) := by decide +kernel
theorem d190_69 : decode (mB 190) 69 = .ok (.getfield 52, 3) := by decide +kernel
theorem d190_72 : decode (mB 190) 72 = .ok (.iload_n 2, 1) := by decide +kernel
theorem d190_73 : decode (mB 190) 73 = .ok (.iaload, 1) := by decide +kernel
theorem d190_74 : decode (mB 190) 74 = .ok (.baload, 1) := by decide +kernel
theorem d190_75 : decode (mB 190) 75 = .ok (.ifCond .eq 28, 3) := by decide +kernel
theorem d190_78 : decode (mB 190) 78 = .ok (.aload_n 0, 1) := by decide +kernel
theorem d190_79 : decode (mB 190) 79 = .ok (.getfield 33, 3) := by decide +kernel
theorem d190_82 : decode (mB 190) 82 = .ok (.iload_n 2, 1) := by decide +kernel
theorem d190_83 : decode (mB 190) 83 = .ok (.iaload, 1) := by decide +kernel
theorem d190_84 : decode (mB 190) 84 = .ok (.bipush 6, 2) := by decide +kernel
theorem d190_86 : decode (mB 190) 86 = .ok (.if_icmp .ne 21, 3) := by decide +kernel
theorem d190_89 : decode (mB 190) 89 = .ok (.aload_n 0, 1) := by decide +kernel
theorem d190_90 : decode (mB 190) 90 = .ok (.getfield 83, 3) := by decide +kernel
theorem d190_93 : decode (mB 190) 93 = .ok (.aload_n 0, 1) := by decide +kernel
theorem d190_94 : decode (mB 190) 94 = .ok (.getfield 52, 3) := by decide +kernel
theorem d190_97 : decode (mB 190) 97 = .ok (.iload_n 2, 1) := by decide +kernel
theorem d190_98 : decode (mB 190) 98 = .ok (.iaload, 1) := by decide +kernel
theorem d190_99 : decode (mB 190) 99 = .ok (.baload, 1) := by decide +kernel
theorem d190_100 : decode (mB 190) 100 = .ok (.ifCond .eq 7, 3) := by decide +kernel
theorem d190_103 : decode (mB 190) 103 = .ok (.iconst 1, 1) := by decide +kernel
theorem d190_104 : decode (mB 190) 104 = .ok (.goto 4, 3) := by decide +kernel
theorem d190_107 : decode (mB 190) 107 = .ok (.iconst 0, 1) := by decide +kernel
theorem d190_108 : decode (mB 190) 108 = .ok (.istore_n 3, 1) := by decide +kernel
theorem d190_109 : decode (mB 190) 109 = .ok (.aload_n 0, 1) := by decide +kernel
theorem d190_110 : decode (mB 190) 110 = .ok (.getfield 33, 3) := by decide +kernel
theorem d190_113 : decode (mB 190) 113 = .ok (.iload_n 2, 1) := by decide +kernel
theorem d190_114 : decode (mB 190) 114 = .ok (.iaload, 1) := by decide +kernel
theorem d190_115 : decode (mB 190) 115 = .ok (.bipush 9, 2) := by decide +kernel
theorem d190_117 : decode (mB 190) 117 = .ok (.if_icmp .ne 62, 3) := by decide +kernel
theorem d190_120 : decode (mB 190) 120 = .ok (.aload_n 0, 1) := by decide +kernel
theorem d190_121 : decode (mB 190) 121 = .ok (.getfield 55, 3) := by decide +kernel
theorem d190_124 : decode (mB 190) 124 = .ok (.iload_n 2, 1) := by decide +kernel
theorem d190_125 : decode (mB 190) 125 = .ok (.iaload, 1) := by decide +kernel
theorem d190_126 : decode (mB 190) 126 = .ok (.iload_n 1, 1) := by decide +kernel
theorem d190_127 : decode (mB 190) 127 = .ok (.if_icmp .eq 52, 3) := by decide +kernel
theorem d190_130 : decode (mB 190) 130 = .ok (.aload_n 0, 1) := by decide +kernel
theorem d190_131 : decode (mB 190) 131 = .ok (.getfield 89, 3) := by decide +kernel
theorem d190_134 : decode (mB 190) 134 = .ok (.aload_n 0, 1) := by decide +kernel
theorem d190_135 : decode (mB 190) 135 = .ok (.getfield 55, 3) := by decide +kernel
theorem d190_138 : decode (mB 190) 138 = .ok (.iload_n 2, 1) := by decide +kernel
theorem d190_139 : decode (mB 190) 139 = .ok (.iaload, 1) := by decide +kernel
theorem d190_140 : decode (mB 190) 140 = .ok (.iaload, 1) := by decide +kernel
theorem d190_141 : decode (mB 190) 141 = .ok (.iconst 1, 1) := by decide +kernel
theorem d190_142 : decode (mB 190) 142 = .ok (.if_icmp .ne 37, 3) := by decide +kernel
theorem d190_145 : decode (mB 190) 145 = .ok (.aload_n 0, 1) := by decide +kernel
theorem d190_146 : decode (mB 190) 146 = .ok (.getfield 149, 3) := by decide +kernel
theorem d190_149 : decode (mB 190) 149 = .ok (.iload_n 1, 1) := by decide +kernel
theorem d190_150 : decode (mB 190) 150 = .ok (.iaload, 1) := by decide +kernel
theorem d190_151 : decode (mB 190) 151 = .ok (.ifCond .eq 22, 3) := by decide +kernel
theorem d190_154 : decode (mB 190) 154 = .ok (.aload_n 0, 1) := by decide +kernel
theorem d190_155 : decode (mB 190) 155 = .ok (.aload_n 0, 1) := by decide +kernel
theorem d190_156 : decode (mB 190) 156 = .ok (.getfield 55, 3) := by decide +kernel
theorem d190_159 : decode (mB 190) 159 = .ok (.iload_n 2, 1) := by decide +kernel
theorem d190_160 : decode (mB 190) 160 = .ok (.iaload, 1) := by decide +kernel
theorem d190_161 : decode (mB 190) 161 = .ok (.aload_n 0, 1) := by decide +kernel
theorem d190_162 : decode (mB 190) 162 = .ok (.getfield 149, 3) := by decide +kernel
theorem d190_165 : decode (mB 190) 165 = .ok (.iload_n 1, 1) := by decide +kernel
theorem d190_166 : decode (mB 190) 166 = .ok (.iaload, 1) := by decide +kernel
theorem d190_167 : decode (mB 190) 167 = .ok (.invokevirtual 410, 3) := by decide +kernel
theorem d190_170 : decode (mB 190) 170 = .ok (.ifCond .eq 7, 3) := by decide +kernel
theorem d190_173 : decode (mB 190) 173 = .ok (.iconst 1, 1) := by decide +kernel
theorem d190_174 : decode (mB 190) 174 = .ok (.goto 4, 3) := by decide +kernel
theorem d190_177 : decode (mB 190) 177 = .ok (.iconst 0, 1) := by decide +kernel
theorem d190_178 : decode (mB 190) 178 = .ok (.istore_n 3, 1) := by decide +kernel
theorem d190_179 : decode (mB 190) 179 = .ok (.iload_n 3, 1) := by decide +kernel
theorem d190_180 : decode (mB 190) 180 = .ok (.ifCond .eq 24, 3) := by decide +kernel
theorem d190_183 : decode (mB 190) 183 = .ok (.aload_n 0, 1) := by decide +kernel
theorem d190_184 : decode (mB 190) 184 = .ok (.getfield 95, 3) := by decide +kernel
theorem d190_187 : decode (mB 190) 187 = .ok (.bipush 6, 2) := by decide +kernel
theorem d190_189 : decode (mB 190) 189 = .ok (.iaload, 1) := by decide +kernel
theorem d190_190 : decode (mB 190) 190 = .ok (.iconst 1, 1) := by decide +kernel
theorem d190_191 : decode (mB 190) 191 = .ok (.if_icmp .ne 17, 3) := by decide +kernel
theorem d190_194 : decode (mB 190) 194 = .ok (.aload_n 0, 1) := by decide +kernel
theorem d190_195 : decode (mB 190) 195 = .ok (.getfield 134, 3) := by decide +kernel
theorem d190_198 : decode (mB 190) 198 = .ok (.bipush 6, 2) := by decide +kernel
theorem d190_200 : decode (mB 190) 200 = .ok (.iaload, 1) := by decide +kernel
theorem d190_201 : decode (mB 190) 201 = .ok (.ifCond .le 7, 3) := by decide +kernel
theorem d190_204 : decode (mB 190) 204 = .ok (.iconst 1, 1) := by decide +kernel
theorem d190_205 : decode (mB 190) 205 = .ok (.goto 4, 3) := by decide +kernel
theorem d190_208 : decode (mB 190) 208 = .ok (.iconst 0, 1) := by decide +kernel
theorem d190_209 : decode (mB 190) 209 = .ok (.ireturn, 1) := by decide +kernel
theorem d189_0 : decode (mB 189) 0 = .ok (.iconst 0, 1) := by decide +kernel
theorem d189_1 : decode (mB 189) 1 = .ok (.istore_n 1, 1) := by decide +kernel
theorem d189_2 : decode (mB 189) 2 = .ok (.iload_n 1, 1) := by decide +kernel
theorem d189_3 : decode (mB 189) 3 = .ok (.bipush 6, 2) := by decide +kernel
theorem d189_5 : decode (mB 189) 5 = .ok (.if_icmp .ge 29, 3) := by decide +kernel
theorem d189_8 : decode (mB 189) 8 = .ok (.aload_n 0, 1) := by decide +kernel
theorem d189_9 : decode (mB 189) 9 = .ok (.getfield 89, 3) := by decide +kernel
theorem d189_12 : decode (mB 189) 12 = .ok (.iload_n 1, 1) := by decide +kernel
theorem d189_13 : decode (mB 189) 13 = .ok (.iaload, 1) := by decide +kernel
theorem d189_14 : decode (mB 189) 14 = .ok (.iconst 1, 1) := by decide +kernel
theorem d189_15 : decode (mB 189) 15 = .ok (.if_icmp .ne 13, 3) := by decide +kernel
theorem d189_18 : decode (mB 189) 18 = .ok (.aload_n 0, 1) := by decide +kernel
theorem d189_19 : decode (mB 189) 19 = .ok (.iload_n 1, 1) := by decide +kernel
theorem d189_20 : decode (mB 189) 20 = .ok (.invokevirtual 438, 3) := by decide +kernel
theorem d189_23 : decode (mB 189) 23 = .ok (.ifCond .eq 5, 3) := by decide +kernel
theorem d189_26 : decode (mB 189) 26 = .ok (.iconst 0, 1) := by decide +kernel
theorem d189_27 : decode (mB 189) 27 = .ok (.ireturn, 1) := by decide +kernel
theorem d189_28 : decode (mB 189) 28 = .ok (.iinc 1 1, 3) := by decide +kernel
theorem d189_31 : decode (mB 189) 31 = .ok (.goto (-29), 3) := by decide +kernel
theorem d189_34 : decode (mB 189) 34 = .ok (.iconst 1, 1) := by decide +kernel
theorem d189_35 : decode (mB 189) 35 = .ok (.ireturn, 1) := by decide +kernel
theorem d192_0 : decode (mB 192) 0 = .ok (.aload_n 0, 1) := by decide +kernel
theorem d192_1 : decode (mB 192) 1 = .ok (.getfield 353, 3) := by decide +kernel
theorem d192_4 : decode (mB 192) 4 = .ok (.ireturn, 1) := by decide +kernel
theorem d193_0 : decode (mB 193) 0 = .ok (.aload_n 0, 1) := by decide +kernel
theorem d193_1 : decode (mB 193) 1 = .ok (.getfield 350, 3) := by decide +kernel
theorem d193_4 : decode (mB 193) 4 = .ok (.ireturn, 1) := by decide +kernel
theorem d194_0 : decode (mB 194) 0 = .ok (.iload_n 1, 1) := by decide +kernel
theorem d194_1 : decode (mB 194) 1 = .ok (.ifCond .lt 11, 3) := by decide +kernel
theorem d194_4 : decode (mB 194) 4 = .ok (.iload_n 1, 1) := by decide +kernel
theorem d194_5 : decode (mB 194) 5 = .ok (.aload_n 0, 1) := by decide +kernel
theorem d194_6 : decode (mB 194) 6 = .ok (.getfield 350, 3) := by decide +kernel
theorem d194_9 : decode (mB 194) 9 = .ok (.if_icmp .lt 5, 3) := by decide +kernel
theorem d194_12 : decode (mB 194) 12 = .ok (.iconst (-1), 1) := by decide +kernel
theorem d194_13 : decode (mB 194) 13 = .ok (.ireturn, 1) := by decide +kernel
theorem d194_14 : decode (mB 194) 14 = .ok (.iload_n 2, 1) := by decide +kernel
theorem d194_15 : decode (mB 194) 15 = .ok (.ifCond .ne 12, 3) := by decide +kernel
theorem d194_18 : decode (mB 194) 18 = .ok (.aload_n 0, 1) := by decide +kernel
theorem d194_19 : decode (mB 194) 19 = .ok (.getfield 155, 3) := by decide +kernel
theorem d194_22 : decode (mB 194) 22 = .ok (.iload_n 1, 1) := by decide +kernel
theorem d194_23 : decode (mB 194) 23 = .ok (.iaload, 1) := by decide +kernel
theorem d194_24 : decode (mB 194) 24 = .ok (.goto 32, 3) := by decide +kernel
theorem d194_27 : decode (mB 194) 27 = .ok (.iload_n 2, 1) := by decide +kernel
theorem d194_28 : decode (mB 194) 28 = .ok (.iconst 1, 1) := by decide +kernel
theorem d194_29 : decode (mB 194) 29 = .ok (.if_icmp .ne 12, 3) := by decide +kernel
theorem d194_32 : decode (mB 194) 32 = .ok (.aload_n 0, 1) := by decide +kernel
theorem d194_33 : decode (mB 194) 33 = .ok (.getfield 158, 3) := by decide +kernel
theorem d194_36 : decode (mB 194) 36 = .ok (.iload_n 1, 1) := by decide +kernel
theorem d194_37 : decode (mB 194) 37 = .ok (.iaload, 1) := by decide +kernel
theorem d194_38 : decode (mB 194) 38 = .ok (.goto 18, 3) := by decide +kernel
theorem d194_41 : decode (mB 194) 41 = .ok (.iload_n 2, 1) := by decide +kernel
theorem d194_42 : decode (mB 194) 42 = .ok (.iconst 2, 1) := by decide +kernel
theorem d194_43 : decode (mB 194) 43 = .ok (.if_icmp .ne 12, 3) := by decide +kernel
theorem d194_46 : decode (mB 194) 46 = .ok (.aload_n 0, 1) := by decide +kernel
theorem d194_47 : decode (mB 194) 47 = .ok (.getfield 161, 3) := by decide +kernel
theorem d194_50 : decode (mB 194) 50 = .ok (.iload_n 1, 1) := by decide +kernel
theorem d194_51 : decode (mB 194) 51 = .ok (.iaload, 1) := by decide +kernel
theorem d194_52 : decode (mB 194) 52 = .ok (.goto 4, 3) := by decide +kernel
theorem d194_55 : decode (mB 194) 55 = .ok (.iconst (-1), 1) := by decide +kernel
theorem d194_56 : decode (mB 194) 56 = .ok (.ireturn, 1) := by decide +kernel
theorem d195_0 : decode (mB 195) 0 = .ok (.iload_n 1, 1) := by decide +kernel
theorem d195_1 : decode (mB 195) 1 = .ok (.ifCond .lt 11, 3) := by decide +kernel
theorem d195_4 : decode (mB 195) 4 = .ok (.iload_n 1, 1) := by decide +kernel
theorem d195_5 : decode (mB 195) 5 = .ok (.aload_n 0, 1) := by decide +kernel
theorem d195_6 : decode (mB 195) 6 = .ok (.getfield 350, 3) := by decide +kernel
theorem d195_9 : decode (mB 195) 9 = .ok (.if_icmp .lt 7, 3) := by decide +kernel
theorem d195_12 : decode (mB 195) 12 = .ok (.lconst 0, 1) := by decide +kernel
theorem d195_13 : decode (mB 195) 13 = .ok (.goto 9, 3) := by decide +kernel
theorem d195_16 : decode (mB 195) 16 = .ok (.aload_n 0, 1) := by decide +kernel
theorem d195_17 : decode (mB 195) 17 = .ok (.getfield 164, 3) := by decide +kernel
theorem d195_20 : decode (mB 195) 20 = .ok (.iload_n 1, 1) := by decide +kernel
theorem d195_21 : decode (mB 195) 21 = .ok (.laload, 1) := by decide +kernel
theorem d195_22 : decode (mB 195) 22 = .ok (.lreturn, 1) := by decide +kernel
theorem d196_0 : decode (mB 196) 0 = .ok (.aload_n 0, 1) := by decide +kernel
theorem d196_1 : decode (mB 196) 1 = .ok (.getfield 350, 3) := by decide +kernel
theorem d196_4 : decode (mB 196) 4 = .ok (.istore_n 1, 1) := by decide +kernel
theorem d196_5 : decode (mB 196) 5 = .ok (.aload_n 0, 1) := by decide +kernel
theorem d196_6 : decode (mB 196) 6 = .ok (.iconst 0, 1) := by decide +kernel
theorem d196_7 : decode (mB 196) 7 = .ok (.putfield 350, 3) := by decide +kernel
theorem d196_10 : decode (mB 196) 10 = .ok (.aload_n 0, 1) := by decide +kernel
theorem d196_11 : decode (mB 196) 11 = .ok (.iconst 0, 1) := by decide +kernel
theorem d196_12 : decode (mB 196) 12 = .ok (.putfield 353, 3) := by decide +kernel
theorem d196_15 : decode (mB 196) 15 = .ok (.iconst 0, 1) := by decide +kernel
theorem d196_16 : decode (mB 196) 16 = .ok (.istore_n 2, 1) := by decide +kernel
theorem d196_17 : decode (mB 196) 17 = .ok (.iload_n 2, 1) := by decide +kernel
theorem d196_18 : decode (mB 196) 18 = .ok (.bipush 8, 2) := by decide +kernel
theorem d196_20 : decode (mB 196) 20 = .ok (.if_icmp .ge 16, 3) := by decide +kernel
theorem d196_23 : decode (mB 196) 23 = .ok (.aload_n 0, 1) := by decide +kernel
theorem d196_24 : decode (mB 196) 24 = .ok (.getfield 83, 3) := by decide +kernel
theorem d196_27 : decode (mB 196) 27 = .ok (.iload_n 2, 1) := by decide +kernel
theorem d196_28 : decode (mB 196) 28 = .ok (.iconst 0, 1) := by decide +kernel
theorem d196_29 : decode (mB 196) 29 = .ok (.bastore, 1) := by decide +kernel
theorem d196_30 : decode (mB 196) 30 = .ok (.iinc 2 1, 3) := by decide +kernel
theorem d196_33 : decode (mB 196) 33 = .ok (.goto (-16), 3) := by decide +kernel
theorem d196_36 : decode (mB 196) 36 = .ok (.iconst 0, 1) := by decide +kernel
theorem d196_37 : decode (mB 196) 37 = .ok (.istore_n 2, 1) := by decide +kernel
theorem d196_38 : decode (mB 196) 38 = .ok (.iload_n 2, 1) := by decide +kernel
theorem d196_39 : decode (mB 196) 39 = .ok (.bipush 6, 2) := by decide +kernel
theorem d196_41 : decode (mB 196) 41 = .ok (.if_icmp .ge 77, 3) := by decide +kernel
theorem d196_44 : decode (mB 196) 44 = .ok (.aload_n 0, 1) := by decide +kernel
theorem d196_45 : decode (mB 196) 45 = .ok (.getfield 89, 3) := by decide +kernel
theorem d196_48 : decode (mB 196) 48 = .ok (.iload_n 2, 1) := by decide +kernel
theorem d196_49 : decode (mB 196) 49 = .ok (.iconst 0, 1) := by decide +kernel
theorem d196_50 : decode (mB 196) 50 = .ok (.iastore, 1) := by decide +kernel
theorem d196_51 : decode (mB 196) 51 = .ok (.aload_n 0, 1) := by decide +kernel
theorem d196_52 : decode (mB 196) 52 = .ok (.getfield 98, 3) := by decide +kernel
theorem d196_55 : decode (mB 196) 55 = .ok (.iload_n 2, 1) := by decide +kernel
theorem d196_56 : decode (mB 196) 56 = .ok (.iconst 0, 1) := by decide +kernel
theorem d196_57 : decode (mB 196) 57 = .ok (.iastore, 1) := by decide +kernel
theorem d196_58 : decode (mB 196) 58 = .ok (.aload_n 0, 1) := by decide +kernel
theorem d196_59 : decode (mB 196) 59 = .ok (.getfield 101, 3) := by decide +kernel
theorem d196_62 : decode (mB 196) 62 = .ok (.iload_n 2, 1) := by decide +kernel
theorem d196_63 : decode (mB 196) 63 = .ok (.lconst 0, 1) := by decide +kernel
theorem d196_64 : decode (mB 196) 64 = .ok (.lastore, 1) := by decide +kernel
theorem d196_65 : decode (mB 196) 65 = .ok (.aload_n 0, 1) := by decide +kernel
theorem d196_66 : decode (mB 196) 66 = .ok (.getfield 107, 3) := by decide +kernel
theorem d196_69 : decode (mB 196) 69 = .ok (.iload_n 2, 1) := by decide +kernel
theorem d196_70 : decode (mB 196) 70 = .ok (.iconst 0, 1) := by decide +kernel
theorem d196_71 : decode (mB 196) 71 = .ok (.iastore, 1) := by decide +kernel
theorem d196_72 : decode (mB 196) 72 = .ok (.aload_n 0, 1) := by decide +kernel
theorem d196_73 : decode (mB 196) 73 = .ok (.getfield 134, 3) := by decide +kernel
theorem d196_76 : decode (mB 196) 76 = .ok (.iload_n 2, 1) := by decide +kernel
theorem d196_77 : decode (mB 196) 77 = .ok (.iconst 0, 1) := by decide +kernel
theorem d196_78 : decode (mB 196) 78 = .ok (.iastore, 1) := by decide +kernel
theorem d196_79 : decode (mB 196) 79 = .ok (.aload_n 0, 1) := by decide +kernel
theorem d196_80 : decode (mB 196) 80 = .ok (.getfield 149, 3) := by decide +kernel
theorem d196_83 : decode (mB 196) 83 = .ok (.iload_n 2, 1) := by decide +kernel
theorem d196_84 : decode (mB 196) 84 = .ok (.iconst 0, 1) := by decide +kernel
theorem d196_85 : decode (mB 196) 85 = .ok (.iastore, 1) := by decide +kernel
theorem d196_86 : decode (mB 196) 86 = .ok (.iconst 0, 1) := by decide +kernel
theorem d196_87 : decode (mB 196) 87 = .ok (.istore_n 3, 1) := by decide +kernel
theorem d196_88 : decode (mB 196) 88 = .ok (.iload_n 3, 1) := by decide +kernel
theorem d196_89 : decode (mB 196) 89 = .ok (.bipush 10, 2) := by decide +kernel
theorem d196_91 : decode (mB 196) 91 = .ok (.if_icmp .ge 21, 3) := by decide +kernel
theorem d196_94 : decode (mB 196) 94 = .ok (.aload_n 0, 1) := by decide +kernel
theorem d196_95 : decode (mB 196) 95 = .ok (.getfield 104, 3) := by decide +kernel
theorem d196_98 : decode (mB 196) 98 = .ok (.bipush 10, 2) := by decide +kernel
theorem d196_100 : decode (mB 196) 100 = .ok (.iload_n 2, 1) := by decide +kernel
theorem d196_101 : decode (mB 196) 101 = .ok (.imul, 1) := by decide +kernel
theorem d196_102 : decode (mB 196) 102 = .ok (.iload_n 3, 1) := by decide +kernel
theorem d196_103 : decode (mB 196) 103 = .ok (.iadd, 1) := by decide +kernel
theorem d196_104 : decode (mB 196) 104 = .ok (.lconst 0, 1) := by decide +kernel
theorem d196_105 : decode (mB 196) 105 = .ok (.lastore, 1) := by decide +kernel
theorem d196_106 : decode (mB 196) 106 = .ok (.iinc 3 1, 3) := by decide +kernel
theorem d196_109 : decode (mB 196) 109 = .ok (.goto (-21), 3) := by decide +kernel
theorem d196_112 : decode (mB 196) 112 = .ok (.iinc 2 1, 3) := by decide +kernel
theorem d196_115 : decode (mB 196) 115 = .ok (.goto (-77), 3) := by decide +kernel
theorem d196_118 : decode (mB 196) 118 = .ok (.iload_n 1, 1) := by decide +kernel
theorem d196_119 : decode (mB 196) 119 = .ok (.ireturn, 1) := by decide +kernel
theorem d9_0 : decode (mB 9) 0 = .ok (.aload_n 0, 1) := by decide +kernel
theorem d9_1 : decode (mB 9) 1 = .ok (.invokespecial 3, 3) := by decide +kernel
theorem d9_4 : decode (mB 9) 4 = .ok (.return_, 1) := by decide +kernel
theorem d62_0 : decode (mB 62) 0 = .ok (.aload_n 0, 1) := by decide +kernel
theorem d62_1 : decode (mB 62) 1 = .ok (.iload_n 1, 1) := by decide +kernel
theorem d62_2 : decode (mB 62) 2 = .ok (.putfield 9, 3) := by decide +kernel
theorem d62_5 : decode (mB 62) 5 = .ok (.aload_n 0, 1) := by decide +kernel
theorem d62_6 : decode (mB 62) 6 = .ok (.iload_n 3, 1) := by decide +kernel
theorem d62_7 : decode (mB 62) 7 = .ok (.putfield 15, 3) := by decide +kernel
theorem d62_10 : decode (mB 62) 10 = .ok (.aload_n 0, 1) := by decide +kernel
theorem d62_11 : decode (mB 62) 11 = .ok (.iload_n 2, 1) := by decide +kernel
theorem d62_12 : decode (mB 62) 12 = .ok (.iload 4, 2) := by decide +kernel
theorem d62_14 : decode (mB 62) 14 = .ok (.invokevirtual 18, 3) := by decide +kernel
theorem d62_17 : decode (mB 62) 17 = .ok (.return_, 1) := by decide +kernel
theorem d63_0 : decode (mB 63) 0 = .ok (.aload_n 0, 1) := by decide +kernel
theorem d63_1 : decode (mB 63) 1 = .ok (.iload_n 1, 1) := by decide +kernel
theorem d63_2 : decode (mB 63) 2 = .ok (.putfield 22, 3) := by decide +kernel
theorem d63_5 : decode (mB 63) 5 = .ok (.aload_n 0, 1) := by decide +kernel
theorem d63_6 : decode (mB 63) 6 = .ok (.iload_n 2, 1) := by decide +kernel
theorem d63_7 : decode (mB 63) 7 = .ok (.putfield 25, 3) := by decide +kernel
theorem d63_10 : decode (mB 63) 10 = .ok (.aload_n 0, 1) := by decide +kernel
theorem d63_11 : decode (mB 63) 11 = .ok (.iconst 0, 1) := by decide +kernel
theorem d63_12 : decode (mB 63) 12 = .ok (.putfield 28, 3) := by decide +kernel
theorem d63_15 : decode (mB 63) 15 = .ok (.aload_n 0, 1) := by decide +kernel
theorem d63_16 : decode (mB 63) 16 = .ok (.iconst 0, 1) := by decide +kernel
theorem d63_17 : decode (mB 63) 17 = .ok (.putfield 31, 3) := by decide +kernel
theorem d63_20 : decode (mB 63) 20 = .ok (.return_, 1) := by decide +kernel
theorem d115_0 : decode (mB 115) 0 = .ok (.aload_n 0, 1) := by decide +kernel
theorem d115_1 : decode (mB 115) 1 = .ok (.aload_n 1, 1) := by decide +kernel
theorem d115_2 : decode (mB 115) 2 = .ok (.getfield 9, 3) := by decide +kernel
theorem d115_5 : decode (mB 115) 5 = .ok (.putfield 9, 3) := by decide +kernel
theorem d115_8 : decode (mB 115) 8 = .ok (.aload_n 0, 1) := by decide +kernel
theorem d115_9 : decode (mB 115) 9 = .ok (.aload_n 1, 1) := by decide +kernel
theorem d115_10 : decode (mB 115) 10 = .ok (.getfield 22, 3) := by decide +kernel
theorem d115_13 : decode (mB 115) 13 = .ok (.putfield 22, 3) := by decide +kernel
theorem d115_16 : decode (mB 115) 16 = .ok (.aload_n 0, 1) := by decide +kernel
theorem d115_17 : decode (mB 115) 17 = .ok (.aload_n 1, 1) := by decide +kernel
theorem d115_18 : decode (mB 115) 18 = .ok (.getfield 15, 3) := by decide +kernel
theorem d115_21 : decode (mB 115) 21 = .ok (.putfield 15, 3) := by decide +kernel
theorem d115_24 : decode (mB 115) 24 = .ok (.aload_n 0, 1) := by decide +kernel
theorem d115_25 : decode (mB 115) 25 = .ok (.aload_n 1, 1) := by decide +kernel
theorem d115_26 : decode (mB 115) 26 = .ok (.getfield 25, 3) := by decide +kernel
theorem d115_29 : decode (mB 115) 29 = .ok (.putfield 25, 3) := by decide +kernel
theorem d115_32 : decode (mB 115) 32 = .ok (.aload_n 0, 1) := by decide +kernel
theorem d115_33 : decode (mB 115) 33 = .ok (.aload_n 1, 1) := by decide +kernel
theorem d115_34 : decode (mB 115) 34 = .ok (.getfield 28, 3) := by decide +kernel
theorem d115_37 : decode (mB 115) 37 = .ok (.putfield 28, 3) := by decide +kernel
theorem d115_40 : decode (mB 115) 40 = .ok (.aload_n 0, 1) := by decide +kernel
theorem d115_41 : decode (mB 115) 41 = .ok (.aload_n 1, 1) := by decide +kernel
theorem d115_42 : decode (mB 115) 42 = .ok (.getfield 35, 3) := by decide +kernel
theorem d115_45 : decode (mB 115) 45 = .ok (.putfield 35, 3) := by decide +kernel
theorem d115_48 : decode (mB 115) 48 = .ok (.aload_n 0, 1) := by decide +kernel
theorem d115_49 : decode (mB 115) 49 = .ok (.aload_n 1, 1) := by decide +kernel
theorem d115_50 : decode (mB 115) 50 = .ok (.getfield 31, 3) := by decide +kernel
theorem d115_53 : decode (mB 115) 53 = .ok (.putfield 31, 3) := by decide +kernel
theorem d115_56 : decode (mB 115) 56 = .ok (.aload_n 0, 1) := by decide +kernel
theorem d115_57 : decode (mB 115) 57 = .ok (.aload_n 1, 1) := by decide +kernel
theorem d115_58 : decode (mB 115) 58 = .ok (.getfield 38, 3) := by decide +kernel
theorem d115_61 : decode (mB 115) 61 = .ok (.putfield 38, 3) := by decide +kernel
theorem d115_64 : decode (mB 115) 64 = .ok (.aload_n 0, 1) := by decide +kernel
theorem d115_65 : decode (mB 115) 65 = .ok (.aload_n 1, 1) := by decide +kernel
theorem d115_66 : decode (mB 115) 66 = .ok (.getfield 42, 3) := by decide +kernel
theorem d115_69 : decode (mB 115) 69 = .ok (.putfield 42, 3) := by decide +kernel
theorem d115_72 : decode (mB 115) 72 = .ok (.return_, 1) := by decide +kernel
theorem d6_0 : decode (mB 6) 0 = .ok (.aload_n 0, 1) := by decide +kernel
theorem d6_1 : decode (mB 6) 1 = .ok (.invokespecial 1, 3) := by decide +kernel
theorem d6_4 : decode (mB 6) 4 = .ok (.aload_n 0, 1) := by decide +kernel
theorem d6_5 : decode (mB 6) 5 = .ok (.iload_n 1, 1) := by decide +kernel
theorem d6_6 : decode (mB 6) 6 = .ok (.newarray .int, 2) := by decide +kernel
theorem d6_8 : decode (mB 6) 8 = .ok (.putfield 7, 3) := by decide +kernel
theorem d6_11 : decode (mB 6) 11 = .ok (.aload_n 0, 1) := by decide +kernel
theorem d6_12 : decode (mB 6) 12 = .ok (.iload_n 1, 1) := by decide +kernel
theorem d6_13 : decode (mB 6) 13 = .ok (.newarray .int, 2) := by decide +kernel
theorem d6_15 : decode (mB 6) 15 = .ok (.putfield 13, 3) := by decide +kernel
theorem d6_18 : decode (mB 6) 18 = .ok (.aload_n 0, 1) := by decide +kernel
theorem d6_19 : decode (mB 6) 19 = .ok (.iload_n 1, 1) := by decide +kernel
theorem d6_20 : decode (mB 6) 20 = .ok (.newarray .int, 2) := by decide +kernel
theorem d6_22 : decode (mB 6) 22 = .ok (.putfield 16, 3) := by decide +kernel
theorem d6_25 : decode (mB 6) 25 = .ok (.aload_n 0, 1) := by decide +kernel
theorem d6_26 : decode (mB 6) 26 = .ok (.iload_n 1, 1) := by decide +kernel
theorem d6_27 : decode (mB 6) 27 = .ok (.newarray .long, 2) := by decide +kernel
theorem d6_29 : decode (mB 6) 29 = .ok (.putfield 19, 3) := by decide +kernel
theorem d6_32 : decode (mB 6) 32 = .ok (.return_, 1) := by decide +kernel
theorem d73_0 : decode (mB 73) 0 = .ok (.aload_n 0, 1) := by decide +kernel
theorem d73_1 : decode (mB 73) 1 = .ok (.getfield 23, 3) := by decide +kernel
theorem d73_4 : decode (mB 73) 4 = .ok (.aload_n 0, 1) := by decide +kernel
theorem d73_5 : decode (mB 73) 5 = .ok (.getfield 7, 3) := by decide +kernel
theorem d73_8 : decode (mB 73) 8 = .ok (.arraylength, 1) := by decide +kernel
theorem d73_9 : decode (mB 73) 9 = .ok (.if_icmp .lt 4, 3) := by decide +kernel
theorem d73_12 : decode (mB 73) 12 = .ok (.return_, 1) := by decide +kernel
theorem d73_13 : decode (mB 73) 13 = .ok (.aload_n 0, 1) := by decide +kernel
theorem d73_14 : decode (mB 73) 14 = .ok (.getfield 7, 3) := by decide +kernel
theorem d73_17 : decode (mB 73) 17 = .ok (.aload_n 0, 1) := by decide +kernel
theorem d73_18 : decode (mB 73) 18 = .ok (.getfield 23, 3) := by decide +kernel
theorem d73_21 : decode (mB 73) 21 = .ok (.iload_n 1, 1) := by decide +kernel
theorem d73_22 : decode (mB 73) 22 = .ok (.iastore, 1) := by decide +kernel
theorem d73_23 : decode (mB 73) 23 = .ok (.aload_n 0, 1) := by decide +kernel
theorem d73_24 : decode (mB 73) 24 = .ok (.getfield 13, 3) := by decide +kernel
theorem d73_27 : decode (mB 73) 27 = .ok (.aload_n 0, 1) := by decide +kernel
theorem d73_28 : decode (mB 73) 28 = .ok (.getfield 23, 3) := by decide +kernel
theorem d73_31 : decode (mB 73) 31 = .ok (.iload_n 2, 1) := by decide +kernel
theorem d73_32 : decode (mB 73) 32 = .ok (.iastore, 1) := by decide +kernel
theorem d73_33 : decode (mB 73) 33 = .ok (.aload_n 0, 1) := by decide +kernel
theorem d73_34 : decode (mB 73) 34 = .ok (.getfield 16, 3) := by decide +kernel
theorem d73_37 : decode (mB 73) 37 = .ok (.aload_n 0, 1) := by decide +kernel
theorem d73_38 : decode (mB 73) 38 = .ok (.getfield 23, 3) := by decide +kernel
theorem d73_41 : decode (mB 73) 41 = .ok (.aload_n 0, 1) := by decide +kernel
theorem d73_42 : decode (mB 73) 42 = .ok (.getfield 27, 3) := by decide +kernel
theorem d73_45 : decode (mB 73) 45 = .ok (.iastore, 1) := by decide +kernel
theorem d73_46 : decode (mB 73) 46 = .ok (.aload_n 0, 1) := by decide +kernel
theorem d73_47 : decode (mB 73) 47 = .ok (.getfield 19, 3) := by decide +kernel
theorem d73_50 : decode (mB 73) 50 = .ok (.aload_n 0, 1) := by decide +kernel
theorem d73_51 : decode (mB 73) 51 = .ok (.getfield 23, 3) := by decide +kernel
theorem d73_54 : decode (mB 73) 54 = .ok (.lload_n 3, 1) := by decide +kernel
theorem d73_55 : decode (mB 73) 55 = .ok (.lastore, 1) := by decide +kernel
theorem d73_56 : decode (mB 73) 56 = .ok (.aload_n 0, 1) := by decide +kernel
theorem d73_57 : decode (mB 73) 57 = .ok (.dup, 1) := by decide +kernel
theorem d73_58 : decode (mB 73) 58 = .ok (.getfield 23, 3) := by decide +kernel
theorem d73_61 : decode (mB 73) 61 = .ok (.iconst 1, 1) := by decide +kernel
theorem d73_62 : decode (mB 73) 62 = .ok (.iadd, 1) := by decide +kernel
theorem d73_63 : decode (mB 73) 63 = .ok (.putfield 23, 3) := by decide +kernel
theorem d73_66 : decode (mB 73) 66 = .ok (.return_, 1) := by decide +kernel
theorem d7_0 : decode (mB 7) 0 = .ok (.aload_n 0, 1) := by decide +kernel
theorem d7_1 : decode (mB 7) 1 = .ok (.invokespecial 3, 3) := by decide +kernel
theorem d7_4 : decode (mB 7) 4 = .ok (.aload_n 0, 1) := by decide +kernel
theorem d7_5 : decode (mB 7) 5 = .ok (.new 9, 3) := by decide +kernel
theorem d7_8 : decode (mB 7) 8 = .ok (.dup, 1) := by decide +kernel
theorem d7_9 : decode (mB 7) 9 = .ok (.invokespecial 11, 3) := by decide +kernel
theorem d7_12 : decode (mB 7) 12 = .ok (.putfield 12, 3) := by decide +kernel
theorem d7_15 : decode (mB 7) 15 = .ok (.aload_n 0, 1) := by decide +kernel
theorem d7_16 : decode (mB 7) 16 = .ok (.bipush 10, 2) := by decide +kernel
theorem d7_18 : decode (mB 7) 18 = .ok (.newarray .long, 2) := by decide +kernel
theorem d7_20 : decode (mB 7) 20 = .ok (.putfield 18, 3) := by decide +kernel
theorem d7_23 : decode (mB 7) 23 = .ok (.aload_n 0, 1) := by decide +kernel
theorem d7_24 : decode (mB 7) 24 = .ok (.bipush 9, 2) := by decide +kernel
theorem d7_26 : decode (mB 7) 26 = .ok (.anewarray 22, 3) := by decide +kernel
theorem d7_29 : decode (mB 7) 29 = .ok (.putfield 24, 3) := by decide +kernel
theorem d7_32 : decode (mB 7) 32 = .ok (.aload_n 0, 1) := by decide +kernel
theorem d7_33 : decode (mB 7) 33 = .ok (.iload_n 1, 1) := by decide +kernel
theorem d7_34 : decode (mB 7) 34 = .ok (.putfield 28, 3) := by decide +kernel
theorem d7_37 : decode (mB 7) 37 = .ok (.aload_n 0, 1) := by decide +kernel
theorem d7_38 : decode (mB 7) 38 = .ok (.aload_n 2, 1) := by decide +kernel
theorem d7_39 : decode (mB 7) 39 = .ok (.putfield 32, 3) := by decide +kernel
theorem d7_42 : decode (mB 7) 42 = .ok (.aload_n 0, 1) := by decide +kernel
theorem d7_43 : decode (mB 7) 43 = .ok (.aload_n 3, 1) := by decide +kernel
theorem d7_44 : decode (mB 7) 44 = .ok (.putfield 36, 3) := by decide +kernel
theorem d7_47 : decode (mB 7) 47 = .ok (.aload_n 0, 1) := by decide +kernel
theorem d7_48 : decode (mB 7) 48 = .ok (.iconst (-1), 1) := by decide +kernel
theorem d7_49 : decode (mB 7) 49 = .ok (.putfield 40, 3) := by decide +kernel
theorem d7_52 : decode (mB 7) 52 = .ok (.iconst 0, 1) := by decide +kernel
theorem d7_53 : decode (mB 7) 53 = .ok (.istore 4, 2) := by decide +kernel
theorem d7_55 : decode (mB 7) 55 = .ok (.iload 4, 2) := by decide +kernel
theorem d7_57 : decode (mB 7) 57 = .ok (.bipush 8, 2) := by decide +kernel
theorem d7_59 : decode (mB 7) 59 = .ok (.if_icmp .gt 23, 3) := by decide +kernel
theorem d7_62 : decode (mB 7) 62 = .ok (.aload_n 0, 1) := by decide +kernel
theorem d7_63 : decode (mB 7) 63 = .ok (.getfield 24, 3) := by decide +kernel
theorem d7_66 : decode (mB 7) 66 = .ok (.iload 4, 2) := by decide +kernel
theorem d7_68 : decode (mB 7) 68 = .ok (.new 22, 3) := by decide +kernel
theorem d7_71 : decode (mB 7) 71 = .ok (.dup, 1) := by decide +kernel
theorem d7_72 : decode (mB 7) 72 = .ok (.invokespecial 43, 3) := by decide +kernel
theorem d7_75 : decode (mB 7) 75 = .ok (.aastore, 1) := by decide +kernel
theorem d7_76 : decode (mB 7) 76 = .ok (.iinc 4 1, 3) := by decide +kernel
theorem d7_79 : decode (mB 7) 79 = .ok (.goto (-24), 3) := by decide +kernel
theorem d7_82 : decode (mB 7) 82 = .ok (.return_, 1) := by decide +kernel
theorem d60_0 : decode (mB 60) 0 = .ok (.aload_n 0, 1) := by decide +kernel
theorem d60_1 : decode (mB 60) 1 = .ok (.iconst 0, 1) := by decide +kernel
theorem d60_2 : decode (mB 60) 2 = .ok (.putfield 44, 3) := by decide +kernel
theorem d60_5 : decode (mB 60) 5 = .ok (.aload_n 0, 1) := by decide +kernel
theorem d60_6 : decode (mB 60) 6 = .ok (.iconst 0, 1) := by decide +kernel
theorem d60_7 : decode (mB 60) 7 = .ok (.putfield 47, 3) := by decide +kernel
theorem d60_10 : decode (mB 60) 10 = .ok (.aload_n 0, 1) := by decide +kernel
theorem d60_11 : decode (mB 60) 11 = .ok (.lconst 0, 1) := by decide +kernel
theorem d60_12 : decode (mB 60) 12 = .ok (.putfield 50, 3) := by decide +kernel
theorem d60_15 : decode (mB 60) 15 = .ok (.iconst 0, 1) := by decide +kernel
theorem d60_16 : decode (mB 60) 16 = .ok (.istore_n 1, 1) := by decide +kernel
theorem d60_17 : decode (mB 60) 17 = .ok (.iload_n 1, 1) := by decide +kernel
theorem d60_18 : decode (mB 60) 18 = .ok (.bipush 10, 2) := by decide +kernel
theorem d60_20 : decode (mB 60) 20 = .ok (.if_icmp .ge 16, 3) := by decide +kernel
theorem d60_23 : decode (mB 60) 23 = .ok (.aload_n 0, 1) := by decide +kernel
theorem d60_24 : decode (mB 60) 24 = .ok (.getfield 18, 3) := by decide +kernel
theorem d60_27 : decode (mB 60) 27 = .ok (.iload_n 1, 1) := by decide +kernel
theorem d60_28 : decode (mB 60) 28 = .ok (.lconst 0, 1) := by decide +kernel
theorem d60_29 : decode (mB 60) 29 = .ok (.lastore, 1) := by decide +kernel
theorem d60_30 : decode (mB 60) 30 = .ok (.iinc 1 1, 3) := by decide +kernel
theorem d60_33 : decode (mB 60) 33 = .ok (.goto (-16), 3) := by decide +kernel
theorem d60_36 : decode (mB 60) 36 = .ok (.aload_n 0, 1) := by decide +kernel
theorem d60_37 : decode (mB 60) 37 = .ok (.invokevirtual 54, 3) := by decide +kernel
theorem d60_40 : decode (mB 60) 40 = .ok (.return_, 1) := by decide +kernel
theorem d61_0 : decode (mB 61) 0 = .ok (.aload_n 0, 1) := by decide +kernel
theorem d61_1 : decode (mB 61) 1 = .ok (.getfield 12, 3) := by decide +kernel
theorem d61_4 : decode (mB 61) 4 = .ok (.iconst 0, 1) := by decide +kernel
theorem d61_5 : decode (mB 61) 5 = .ok (.putfield 57, 3) := by decide +kernel
theorem d61_8 : decode (mB 61) 8 = .ok (.aload_n 0, 1) := by decide +kernel
theorem d61_9 : decode (mB 61) 9 = .ok (.iconst 0, 1) := by decide +kernel
theorem d61_10 : decode (mB 61) 10 = .ok (.putfield 60, 3) := by decide +kernel
theorem d61_13 : decode (mB 61) 13 = .ok (.aload_n 0, 1) := by decide +kernel
theorem d61_14 : decode (mB 61) 14 = .ok (.iconst 0, 1) := by decide +kernel
theorem d61_15 : decode (mB 61) 15 = .ok (.putfield 63, 3) := by decide +kernel
theorem d61_18 : decode (mB 61) 18 = .ok (.aload_n 0, 1) := by decide +kernel
theorem d61_19 : decode (mB 61) 19 = .ok (.iconst 0, 1) := by decide +kernel
theorem d61_20 : decode (mB 61) 20 = .ok (.putfield 66, 3) := by decide +kernel
theorem d61_23 : decode (mB 61) 23 = .ok (.aload_n 0, 1) := by decide +kernel
theorem d61_24 : decode (mB 61) 24 = .ok (.iconst (-1), 1) := by decide +kernel
theorem d61_25 : decode (mB 61) 25 = .ok (.putfield 40, 3) := by decide +kernel
theorem d61_28 : decode (mB 61) 28 = .ok (.return_, 1) := by decide +kernel
theorem d59_0 : decode (mB 59) 0 = .ok (.aload_n 0, 1) := by decide +kernel
theorem d59_1 : decode (mB 59) 1 = .ok (.invokevirtual 69, 3) := by decide +kernel
theorem d59_4 : decode (mB 59) 4 = .ok (.aload_n 0, 1) := by decide +kernel
theorem d59_5 : decode (mB 59) 5 = .ok (.aload_n 1, 1) := by decide +kernel
theorem d59_6 : decode (mB 59) 6 = .ok (.putfield 36, 3) := by decide +kernel
theorem d59_9 : decode (mB 59) 9 = .ok (.aload_n 0, 1) := by decide +kernel
theorem d59_10 : decode (mB 59) 10 = .ok (.getfield 24, 3) := by decide +kernel
theorem d59_13 : decode (mB 59) 13 = .ok (.iconst 0, 1) := by decide +kernel
theorem d59_14 : decode (mB 59) 14 = .ok (.aaload, 1) := by decide +kernel
theorem d59_15 : decode (mB 59) 15 = .ok (.iconst (-1), 1) := by decide +kernel
theorem d59_16 : decode (mB 59) 16 = .ok (.iconst 0, 1) := by decide +kernel
theorem d59_17 : decode (mB 59) 17 = .ok (.iconst 0, 1) := by decide +kernel
theorem d59_18 : decode (mB 59) 18 = .ok (.aload_n 0, 1) := by decide +kernel
theorem d59_19 : decode (mB 59) 19 = .ok (.getfield 36, 3) := by decide +kernel
theorem d59_22 : decode (mB 59) 22 = .ok (.getfield 72, 3) := by decide +kernel
theorem d59_25 : decode (mB 59) 25 = .ok (.bipush 120, 2) := by decide +kernel
theorem d59_27 : decode (mB 59) 27 = .ok (.iaload, 1) := by decide +kernel
theorem d59_28 : decode (mB 59) 28 = .ok (.invokevirtual 78, 3) := by decide +kernel
theorem d59_31 : decode (mB 59) 31 = .ok (.aload_n 0, 1) := by decide +kernel
theorem d59_32 : decode (mB 59) 32 = .ok (.iconst 1, 1) := by decide +kernel
theorem d59_33 : decode (mB 59) 33 = .ok (.putfield 44, 3) := by decide +kernel
theorem d59_36 : decode (mB 59) 36 = .ok (.return_, 1) := by decide +kernel
theorem d83_0 : decode (mB 83) 0 = .ok (.aload_n 0, 1) := by decide +kernel
theorem d83_1 : decode (mB 83) 1 = .ok (.iconst 2, 1) := by decide +kernel
theorem d83_2 : decode (mB 83) 2 = .ok (.putfield 44, 3) := by decide +kernel
theorem d83_5 : decode (mB 83) 5 = .ok (.aload_n 0, 1) := by decide +kernel
theorem d83_6 : decode (mB 83) 6 = .ok (.invokevirtual 54, 3) := by decide +kernel
theorem d83_9 : decode (mB 83) 9 = .ok (.aload_n 0, 1) := by decide +kernel
theorem d83_10 : decode (mB 83) 10 = .ok (.getfield 32, 3) := by decide +kernel
theorem d83_13 : decode (mB 83) 13 = .ok (.iconst 4, 1) := by decide +kernel
theorem d83_14 : decode (mB 83) 14 = .ok (.aload_n 0, 1) := by decide +kernel
theorem d83_15 : decode (mB 83) 15 = .ok (.getfield 28, 3) := by decide +kernel
theorem d83_18 : decode (mB 83) 18 = .ok (.lconst 0, 1) := by decide +kernel
theorem d83_19 : decode (mB 83) 19 = .ok (.invokevirtual 82, 3) := by decide +kernel
theorem d83_22 : decode (mB 83) 22 = .ok (.iconst 2, 1) := by decide +kernel
theorem d83_23 : decode (mB 83) 23 = .ok (.ireturn, 1) := by decide +kernel
theorem d95_0 : decode (mB 95) 0 = .ok (.aload_n 0, 1) := by decide +kernel
theorem d95_1 : decode (mB 95) 1 = .ok (.iconst 3, 1) := by decide +kernel
theorem d95_2 : decode (mB 95) 2 = .ok (.putfield 44, 3) := by decide +kernel
theorem d95_5 : decode (mB 95) 5 = .ok (.aload_n 0, 1) := by decide +kernel
theorem d95_6 : decode (mB 95) 6 = .ok (.aload_n 0, 1) := by decide +kernel
theorem d95_7 : decode (mB 95) 7 = .ok (.getfield 88, 3) := by decide +kernel
theorem d95_10 : decode (mB 95) 10 = .ok (.putfield 50, 3) := by decide +kernel
theorem d95_13 : decode (mB 95) 13 = .ok (.aload_n 0, 1) := by decide +kernel
theorem d95_14 : decode (mB 95) 14 = .ok (.invokevirtual 54, 3) := by decide +kernel
theorem d95_17 : decode (mB 95) 17 = .ok (.aload_n 0, 1) := by decide +kernel
theorem d95_18 : decode (mB 95) 18 = .ok (.getfield 32, 3) := by decide +kernel
theorem d95_21 : decode (mB 95) 21 = .ok (.iconst 5, 1) := by decide +kernel
theorem d95_22 : decode (mB 95) 22 = .ok (.aload_n 0, 1) := by decide +kernel
theorem d95_23 : decode (mB 95) 23 = .ok (.getfield 28, 3) := by decide +kernel
theorem d95_26 : decode (mB 95) 26 = .ok (.aload_n 0, 1) := by decide +kernel
theorem d95_27 : decode (mB 95) 27 = .ok (.getfield 88, 3) := by decide +kernel
theorem d95_30 : decode (mB 95) 30 = .ok (.invokevirtual 82, 3) := by decide +kernel
theorem d95_33 : decode (mB 95) 33 = .ok (.iconst 3, 1) := by decide +kernel
theorem d95_34 : decode (mB 95) 34 = .ok (.ireturn, 1) := by decide +kernel
theorem d70_0 : decode (mB 70) 0 = .ok (.aload_n 0, 1) := by decide +kernel
theorem d70_1 : decode (mB 70) 1 = .ok (.getfield 24, 3) := by decide +kernel
theorem d70_4 : decode (mB 70) 4 = .ok (.aload_n 0, 1) := by decide +kernel
theorem d70_5 : decode (mB 70) 5 = .ok (.getfield 63, 3) := by decide +kernel
theorem d70_8 : decode (mB 70) 8 = .ok (.aaload, 1) := by decide +kernel
theorem d70_9 : decode (mB 70) 9 = .ok (.getfield 91, 3) := by decide +kernel
theorem d70_12 : decode (mB 70) 12 = .ok (.ireturn, 1) := by decide +kernel
theorem d104_0 : decode (mB 104) 0 = .ok (.iconst 1, 1) := by decide +kernel
theorem d104_1 : decode (mB 104) 1 = .ok (.istore_n 1, 1) := by decide +kernel
theorem d104_2 : decode (mB 104) 2 = .ok (.iload_n 1, 1) := by decide +kernel
theorem d104_3 : decode (mB 104) 3 = .ok (.aload_n 0, 1) := by decide +kernel
theorem d104_4 : decode (mB 104) 4 = .ok (.getfield 63, 3) := by decide +kernel
theorem d104_7 : decode (mB 104) 7 = .ok (.if_icmp .gt 23, 3) := by decide +kernel
theorem d104_10 : decode (mB 104) 10 = .ok (.aload_n 0, 1) := by decide +kernel
theorem d104_11 : decode (mB 104) 11 = .ok (.getfield 24, 3) := by decide +kernel
theorem d104_14 : decode (mB 104) 14 = .ok (.iload_n 1, 1) := by decide +kernel
theorem d104_15 : decode (mB 104) 15 = .ok (.aaload, 1) := by decide +kernel
theorem d104_16 : decode (mB 104) 16 = .ok (.getfield 94, 3) := by decide +kernel
theorem d104_19 : decode (mB 104) 19 = .ok (.ifCond .eq 5, 3) := by decide +kernel
theorem d104_22 : decode (mB 104) 22 = .ok (.iconst 1, 1) := by decide +kernel
theorem d104_23 : decode (mB 104) 23 = .ok (.ireturn, 1) := by decide +kernel
theorem d104_24 : decode (mB 104) 24 = .ok (.iinc 1 1, 3) := by decide +kernel
theorem d104_27 : decode (mB 104) 27 = .ok (.goto (-25), 3) := by decide +kernel
theorem d104_30 : decode (mB 104) 30 = .ok (.iconst 0, 1) := by decide +kernel
theorem d104_31 : decode (mB 104) 31 = .ok (.ireturn, 1) := by decide +kernel
theorem d79_0 : decode (mB 79) 0 = .ok (.aload_n 0, 1) := by decide +kernel
theorem d79_1 : decode (mB 79) 1 = .ok (.getfield 24, 3) := by decide +kernel
theorem d79_4 : decode (mB 79) 4 = .ok (.aload_n 0, 1) := by decide +kernel
theorem d79_5 : decode (mB 79) 5 = .ok (.getfield 63, 3) := by decide +kernel
theorem d79_8 : decode (mB 79) 8 = .ok (.aaload, 1) := by decide +kernel
theorem d79_9 : decode (mB 79) 9 = .ok (.astore_n 1, 1) := by decide +kernel
theorem d79_10 : decode (mB 79) 10 = .ok (.aload_n 1, 1) := by decide +kernel
theorem d79_11 : decode (mB 79) 11 = .ok (.getfield 91, 3) := by decide +kernel
theorem d79_14 : decode (mB 79) 14 = .ok (.ifCond .lt 19, 3) := by decide +kernel
theorem d79_17 : decode (mB 79) 17 = .ok (.aload_n 1, 1) := by decide +kernel
theorem d79_18 : decode (mB 79) 18 = .ok (.aload_n 0, 1) := by decide +kernel
theorem d79_19 : decode (mB 79) 19 = .ok (.getfield 36, 3) := by decide +kernel
theorem d79_22 : decode (mB 79) 22 = .ok (.getfield 98, 3) := by decide +kernel
theorem d79_25 : decode (mB 79) 25 = .ok (.aload_n 1, 1) := by decide +kernel
theorem d79_26 : decode (mB 79) 26 = .ok (.getfield 91, 3) := by decide +kernel
theorem d79_29 : decode (mB 79) 29 = .ok (.iaload, 1) := by decide +kernel
theorem d79_30 : decode (mB 79) 30 = .ok (.putfield 91, 3) := by decide +kernel
theorem d79_33 : decode (mB 79) 33 = .ok (.iconst 0, 1) := by decide +kernel
theorem d79_34 : decode (mB 79) 34 = .ok (.ireturn, 1) := by decide +kernel
theorem d87_0 : decode (mB 87) 0 = .ok (.aload_n 0, 1) := by decide +kernel
theorem d87_1 : decode (mB 87) 1 = .ok (.invokevirtual 101, 3) := by decide +kernel
theorem d87_4 : decode (mB 87) 4 = .ok (.istore_n 3, 1) := by decide +kernel
theorem d87_5 : decode (mB 87) 5 = .ok (.iload_n 3, 1) := by decide +kernel
theorem d87_6 : decode (mB 87) 6 = .ok (.ifCond .lt 26, 3) := by decide +kernel
theorem d87_9 : decode (mB 87) 9 = .ok (.aload_n 0, 1) := by decide +kernel
theorem d87_10 : decode (mB 87) 10 = .ok (.getfield 63, 3) := by decide +kernel
theorem d87_13 : decode (mB 87) 13 = .ok (.bipush 8, 2) := by decide +kernel
theorem d87_15 : decode (mB 87) 15 = .ok (.if_icmp .ge 17, 3) := by decide +kernel
theorem d87_18 : decode (mB 87) 18 = .ok (.aload_n 0, 1) := by decide +kernel
theorem d87_19 : decode (mB 87) 19 = .ok (.getfield 36, 3) := by decide +kernel
theorem d87_22 : decode (mB 87) 22 = .ok (.iload_n 3, 1) := by decide +kernel
theorem d87_23 : decode (mB 87) 23 = .ok (.iload_n 1, 1) := by decide +kernel
theorem d87_24 : decode (mB 87) 24 = .ok (.invokevirtual 105, 3) := by decide +kernel
theorem d87_27 : decode (mB 87) 27 = .ok (.bipush (-2), 2) := by decide +kernel
theorem d87_29 : decode (mB 87) 29 = .ok (.if_icmp .ne 8, 3) := by decide +kernel
theorem d87_32 : decode (mB 87) 32 = .ok (.aload_n 0, 1) := by decide +kernel
theorem d87_33 : decode (mB 87) 33 = .ok (.invokevirtual 109, 3) := by decide +kernel
theorem d87_36 : decode (mB 87) 36 = .ok (.ireturn, 1) := by decide +kernel
theorem d87_37 : decode (mB 87) 37 = .ok (.aload_n 0, 1) := by decide +kernel
theorem d87_38 : decode (mB 87) 38 = .ok (.dup, 1) := by decide +kernel
theorem d87_39 : decode (mB 87) 39 = .ok (.getfield 63, 3) := by decide +kernel
theorem d87_42 : decode (mB 87) 42 = .ok (.iconst 1, 1) := by decide +kernel
theorem d87_43 : decode (mB 87) 43 = .ok (.iadd, 1) := by decide +kernel
theorem d87_44 : decode (mB 87) 44 = .ok (.putfield 63, 3) := by decide +kernel
theorem d87_47 : decode (mB 87) 47 = .ok (.aload_n 0, 1) := by decide +kernel
theorem d87_48 : decode (mB 87) 48 = .ok (.getfield 24, 3) := by decide +kernel
theorem d87_51 : decode (mB 87) 51 = .ok (.aload_n 0, 1) := by decide +kernel
theorem d87_52 : decode (mB 87) 52 = .ok (.getfield 63, 3) := by decide +kernel
theorem d87_55 : decode (mB 87) 55 = .ok (.aaload, 1) := by decide +kernel
theorem d87_56 : decode (mB 87) 56 = .ok (.astore 4, 2) := by decide +kernel
theorem d87_58 : decode (mB 87) 58 = .ok (.aload 4, 2) := by decide +kernel
theorem d87_60 : decode (mB 87) 60 = .ok (.iload_n 3, 1) := by decide +kernel
theorem d87_61 : decode (mB 87) 61 = .ok (.iload_n 1, 1) := by decide +kernel
theorem d87_62 : decode (mB 87) 62 = .ok (.aload_n 0, 1) := by decide +kernel
theorem d87_63 : decode (mB 87) 63 = .ok (.getfield 60, 3) := by decide +kernel
theorem d87_66 : decode (mB 87) 66 = .ok (.aload_n 0, 1) := by decide +kernel
theorem d87_67 : decode (mB 87) 67 = .ok (.getfield 36, 3) := by decide +kernel
theorem d87_70 : decode (mB 87) 70 = .ok (.iload_n 3, 1) := by decide +kernel
theorem d87_71 : decode (mB 87) 71 = .ok (.iload_n 1, 1) := by decide +kernel
theorem d87_72 : decode (mB 87) 72 = .ok (.invokevirtual 105, 3) := by decide +kernel
theorem d87_75 : decode (mB 87) 75 = .ok (.invokevirtual 78, 3) := by decide +kernel
theorem d87_78 : decode (mB 87) 78 = .ok (.aload_n 0, 1) := by decide +kernel
theorem d87_79 : decode (mB 87) 79 = .ok (.iload_n 2, 1) := by decide +kernel
theorem d87_80 : decode (mB 87) 80 = .ok (.putfield 60, 3) := by decide +kernel
theorem d87_83 : decode (mB 87) 83 = .ok (.aload_n 0, 1) := by decide +kernel
theorem d87_84 : decode (mB 87) 84 = .ok (.getfield 36, 3) := by decide +kernel
theorem d87_87 : decode (mB 87) 87 = .ok (.getfield 112, 3) := by decide +kernel
theorem d87_90 : decode (mB 87) 90 = .ok (.iload_n 3, 1) := by decide +kernel
theorem d87_91 : decode (mB 87) 91 = .ok (.iaload, 1) := by decide +kernel
theorem d87_92 : decode (mB 87) 92 = .ok (.bipush 23, 2) := by decide +kernel
theorem d87_94 : decode (mB 87) 94 = .ok (.if_icmp .ne 35, 3) := by decide +kernel
theorem d87_97 : decode (mB 87) 97 = .ok (.iload_n 1, 1) := by decide +kernel
theorem d87_98 : decode (mB 87) 98 = .ok (.ifCond .ne 31, 3) := by decide +kernel
theorem d87_101 : decode (mB 87) 101 = .ok (.aload 4, 2) := by decide +kernel
theorem d87_103 : decode (mB 87) 103 = .ok (.iconst 1, 1) := by decide +kernel
theorem d87_104 : decode (mB 87) 104 = .ok (.putfield 115, 3) := by decide +kernel
theorem d87_107 : decode (mB 87) 107 = .ok (.aload 4, 2) := by decide +kernel
theorem d87_109 : decode (mB 87) 109 = .ok (.aload_n 0, 1) := by decide +kernel
theorem d87_110 : decode (mB 87) 110 = .ok (.getfield 32, 3) := by decide +kernel
theorem d87_113 : decode (mB 87) 113 = .ok (.getfield 118, 3) := by decide +kernel
theorem d87_116 : decode (mB 87) 116 = .ok (.putfield 121, 3) := by decide +kernel
theorem d87_119 : decode (mB 87) 119 = .ok (.aload_n 0, 1) := by decide +kernel
theorem d87_120 : decode (mB 87) 120 = .ok (.dup, 1) := by decide +kernel
theorem d87_121 : decode (mB 87) 121 = .ok (.getfield 66, 3) := by decide +kernel
theorem d87_124 : decode (mB 87) 124 = .ok (.iconst 1, 1) := by decide +kernel
theorem d87_125 : decode (mB 87) 125 = .ok (.iadd, 1) := by decide +kernel
theorem d87_126 : decode (mB 87) 126 = .ok (.putfield 66, 3) := by decide +kernel
theorem d87_129 : decode (mB 87) 129 = .ok (.iconst 0, 1) := by decide +kernel
theorem d87_130 : decode (mB 87) 130 = .ok (.ireturn, 1) := by decide +kernel
theorem d71_0 : decode (mB 71) 0 = .ok (.aload_n 1, 1) := by decide +kernel
theorem d71_1 : decode (mB 71) 1 = .ok (.iload_n 2, 1) := by decide +kernel
theorem d71_2 : decode (mB 71) 2 = .ok (.aload_n 0, 1) := by decide +kernel
theorem d71_3 : decode (mB 71) 3 = .ok (.getfield 36, 3) := by decide +kernel
theorem d71_6 : decode (mB 71) 6 = .ok (.aload_n 1, 1) := by decide +kernel
theorem d71_7 : decode (mB 71) 7 = .ok (.getfield 124, 3) := by decide +kernel
theorem d71_10 : decode (mB 71) 10 = .ok (.iload_n 2, 1) := by decide +kernel
theorem d71_11 : decode (mB 71) 11 = .ok (.invokevirtual 105, 3) := by decide +kernel
theorem d71_14 : decode (mB 71) 14 = .ok (.invokevirtual 127, 3) := by decide +kernel
theorem d71_17 : decode (mB 71) 17 = .ok (.aload_n 0, 1) := by decide +kernel
theorem d71_18 : decode (mB 71) 18 = .ok (.iload_n 3, 1) := by decide +kernel
theorem d71_19 : decode (mB 71) 19 = .ok (.putfield 60, 3) := by decide +kernel
theorem d71_22 : decode (mB 71) 22 = .ok (.return_, 1) := by decide +kernel
theorem d75_0 : decode (mB 75) 0 = .ok (.aload_n 0, 1) := by decide +kernel
theorem d75_1 : decode (mB 75) 1 = .ok (.getfield 24, 3) := by decide +kernel
theorem d75_4 : decode (mB 75) 4 = .ok (.aload_n 0, 1) := by decide +kernel
theorem d75_5 : decode (mB 75) 5 = .ok (.getfield 63, 3) := by decide +kernel
theorem d75_8 : decode (mB 75) 8 = .ok (.aaload, 1) := by decide +kernel
theorem d75_9 : decode (mB 75) 9 = .ok (.astore_n 1, 1) := by decide +kernel
theorem d75_10 : decode (mB 75) 10 = .ok (.aload_n 0, 1) := by decide +kernel
theorem d75_11 : decode (mB 75) 11 = .ok (.aload_n 1, 1) := by decide +kernel
theorem d75_12 : decode (mB 75) 12 = .ok (.invokevirtual 131, 3) := by decide +kernel
theorem d75_15 : decode (mB 75) 15 = .ok (.aload_n 0, 1) := by decide +kernel
theorem d75_16 : decode (mB 75) 16 = .ok (.aload_n 1, 1) := by decide +kernel
theorem d75_17 : decode (mB 75) 17 = .ok (.getfield 135, 3) := by decide +kernel
theorem d75_20 : decode (mB 75) 20 = .ok (.putfield 60, 3) := by decide +kernel
theorem d75_23 : decode (mB 75) 23 = .ok (.aload_n 0, 1) := by decide +kernel
theorem d75_24 : decode (mB 75) 24 = .ok (.dup, 1) := by decide +kernel
theorem d75_25 : decode (mB 75) 25 = .ok (.getfield 63, 3) := by decide +kernel
theorem d75_28 : decode (mB 75) 28 = .ok (.iconst 1, 1) := by decide +kernel
theorem d75_29 : decode (mB 75) 29 = .ok (.isub, 1) := by decide +kernel
theorem d75_30 : decode (mB 75) 30 = .ok (.putfield 63, 3) := by decide +kernel
theorem d75_33 : decode (mB 75) 33 = .ok (.return_, 1) := by decide +kernel
theorem d76_0 : decode (mB 76) 0 = .ok (.aload_n 1, 1) := by decide +kernel
theorem d76_1 : decode (mB 76) 1 = .ok (.getfield 115, 3) := by decide +kernel
theorem d76_4 : decode (mB 76) 4 = .ok (.iconst 1, 1) := by decide +kernel
theorem d76_5 : decode (mB 76) 5 = .ok (.if_icmp .ne 16, 3) := by decide +kernel
theorem d76_8 : decode (mB 76) 8 = .ok (.aload_n 0, 1) := by decide +kernel
theorem d76_9 : decode (mB 76) 9 = .ok (.dup, 1) := by decide +kernel
theorem d76_10 : decode (mB 76) 10 = .ok (.getfield 66, 3) := by decide +kernel
theorem d76_13 : decode (mB 76) 13 = .ok (.iconst 1, 1) := by decide +kernel
theorem d76_14 : decode (mB 76) 14 = .ok (.isub, 1) := by decide +kernel
theorem d76_15 : decode (mB 76) 15 = .ok (.putfield 66, 3) := by decide +kernel
theorem d76_18 : decode (mB 76) 18 = .ok (.goto 29, 3) := by decide +kernel
theorem d76_21 : decode (mB 76) 21 = .ok (.aload_n 1, 1) := by decide +kernel
theorem d76_22 : decode (mB 76) 22 = .ok (.getfield 115, 3) := by decide +kernel
theorem d76_25 : decode (mB 76) 25 = .ok (.iconst 2, 1) := by decide +kernel
theorem d76_26 : decode (mB 76) 26 = .ok (.if_icmp .ne 21, 3) := by decide +kernel
theorem d76_29 : decode (mB 76) 29 = .ok (.aload_n 0, 1) := by decide +kernel
theorem d76_30 : decode (mB 76) 30 = .ok (.getfield 12, 3) := by decide +kernel
theorem d76_33 : decode (mB 76) 33 = .ok (.aload_n 0, 1) := by decide +kernel
theorem d76_34 : decode (mB 76) 34 = .ok (.getfield 12, 3) := by decide +kernel
theorem d76_37 : decode (mB 76) 37 = .ok (.aload_n 0, 1) := by decide +kernel
theorem d76_38 : decode (mB 76) 38 = .ok (.getfield 63, 3) := by decide +kernel
theorem d76_41 : decode (mB 76) 41 = .ok (.invokevirtual 138, 3) := by decide +kernel
theorem d76_44 : decode (mB 76) 44 = .ok (.invokevirtual 142, 3) := by decide +kernel
theorem d76_47 : decode (mB 76) 47 = .ok (.aload_n 1, 1) := by decide +kernel
theorem d76_48 : decode (mB 76) 48 = .ok (.iconst 0, 1) := by decide +kernel
theorem d76_49 : decode (mB 76) 49 = .ok (.putfield 115, 3) := by decide +kernel
theorem d76_52 : decode (mB 76) 52 = .ok (.return_, 1) := by decide +kernel
theorem d66_0 : decode (mB 66) 0 = .ok (.iconst 1, 1) := by decide +kernel
theorem d66_1 : decode (mB 66) 1 = .ok (.istore_n 1, 1) := by decide +kernel
theorem d66_2 : decode (mB 66) 2 = .ok (.iload_n 1, 1) := by decide +kernel
theorem d66_3 : decode (mB 66) 3 = .ok (.aload_n 0, 1) := by decide +kernel
theorem d66_4 : decode (mB 66) 4 = .ok (.getfield 63, 3) := by decide +kernel
theorem d66_7 : decode (mB 66) 7 = .ok (.if_icmp .gt 84, 3) := by decide +kernel
theorem d66_10 : decode (mB 66) 10 = .ok (.aload_n 0, 1) := by decide +kernel
theorem d66_11 : decode (mB 66) 11 = .ok (.getfield 66, 3) := by decide +kernel
theorem d66_14 : decode (mB 66) 14 = .ok (.ifCond .le 77, 3) := by decide +kernel
theorem d66_17 : decode (mB 66) 17 = .ok (.aload_n 0, 1) := by decide +kernel
theorem d66_18 : decode (mB 66) 18 = .ok (.getfield 24, 3) := by decide +kernel
theorem d66_21 : decode (mB 66) 21 = .ok (.iload_n 1, 1) := by decide +kernel
theorem d66_22 : decode (mB 66) 22 = .ok (.aaload, 1) := by decide +kernel
theorem d66_23 : decode (mB 66) 23 = .ok (.astore_n 2, 1) := by decide +kernel
theorem d66_24 : decode (mB 66) 24 = .ok (.aload_n 2, 1) := by decide +kernel
theorem d66_25 : decode (mB 66) 25 = .ok (.getfield 115, 3) := by decide +kernel
theorem d66_28 : decode (mB 66) 28 = .ok (.iconst 1, 1) := by decide +kernel
theorem d66_29 : decode (mB 66) 29 = .ok (.if_icmp .ne 56, 3) := by decide +kernel
theorem d66_32 : decode (mB 66) 32 = .ok (.aload_n 0, 1) := by decide +kernel
theorem d66_33 : decode (mB 66) 33 = .ok (.getfield 32, 3) := by decide +kernel
theorem d66_36 : decode (mB 66) 36 = .ok (.getfield 118, 3) := by decide +kernel
theorem d66_39 : decode (mB 66) 39 = .ok (.aload_n 2, 1) := by decide +kernel
theorem d66_40 : decode (mB 66) 40 = .ok (.getfield 121, 3) := by decide +kernel
theorem d66_43 : decode (mB 66) 43 = .ok (.isub, 1) := by decide +kernel
theorem d66_44 : decode (mB 66) 44 = .ok (.aload_n 0, 1) := by decide +kernel
theorem d66_45 : decode (mB 66) 45 = .ok (.getfield 36, 3) := by decide +kernel
theorem d66_48 : decode (mB 66) 48 = .ok (.getfield 146, 3) := by decide +kernel
theorem d66_51 : decode (mB 66) 51 = .ok (.aload_n 2, 1) := by decide +kernel
theorem d66_52 : decode (mB 66) 52 = .ok (.getfield 124, 3) := by decide +kernel
theorem d66_55 : decode (mB 66) 55 = .ok (.iaload, 1) := by decide +kernel
theorem d66_56 : decode (mB 66) 56 = .ok (.if_icmp .lt 29, 3) := by decide +kernel
theorem d66_59 : decode (mB 66) 59 = .ok (.aload_n 2, 1) := by decide +kernel
theorem d66_60 : decode (mB 66) 60 = .ok (.iconst 2, 1) := by decide +kernel
theorem d66_61 : decode (mB 66) 61 = .ok (.putfield 115, 3) := by decide +kernel
theorem d66_64 : decode (mB 66) 64 = .ok (.aload_n 0, 1) := by decide +kernel
theorem d66_65 : decode (mB 66) 65 = .ok (.dup, 1) := by decide +kernel
theorem d66_66 : decode (mB 66) 66 = .ok (.getfield 66, 3) := by decide +kernel
theorem d66_69 : decode (mB 66) 69 = .ok (.iconst 1, 1) := by decide +kernel
theorem d66_70 : decode (mB 66) 70 = .ok (.isub, 1) := by decide +kernel
theorem d66_71 : decode (mB 66) 71 = .ok (.putfield 66, 3) := by decide +kernel
theorem d66_74 : decode (mB 66) 74 = .ok (.aload_n 0, 1) := by decide +kernel
theorem d66_75 : decode (mB 66) 75 = .ok (.getfield 12, 3) := by decide +kernel
theorem d66_78 : decode (mB 66) 78 = .ok (.bipush 7, 2) := by decide +kernel
theorem d66_80 : decode (mB 66) 80 = .ok (.iload_n 1, 1) := by decide +kernel
theorem d66_81 : decode (mB 66) 81 = .ok (.lconst 0, 1) := by decide +kernel
theorem d66_82 : decode (mB 66) 82 = .ok (.invokevirtual 149, 3) := by decide +kernel
theorem d66_85 : decode (mB 66) 85 = .ok (.iinc 1 1, 3) := by decide +kernel
theorem d66_88 : decode (mB 66) 88 = .ok (.goto (-86), 3) := by decide +kernel
theorem d66_91 : decode (mB 66) 91 = .ok (.return_, 1) := by decide +kernel
theorem d69_0 : decode (mB 69) 0 = .ok (.iconst 0, 1) := by decide +kernel
theorem d69_1 : decode (mB 69) 1 = .ok (.istore_n 1, 1) := by decide +kernel
theorem d69_2 : decode (mB 69) 2 = .ok (.iload_n 1, 1) := by decide +kernel
theorem d69_3 : decode (mB 69) 3 = .ok (.bipush 24, 2) := by decide +kernel
theorem d69_5 : decode (mB 69) 5 = .ok (.if_icmp .ge 153, 3) := by decide +kernel
theorem d69_8 : decode (mB 69) 8 = .ok (.aload_n 0, 1) := by decide +kernel
theorem d69_9 : decode (mB 69) 9 = .ok (.getfield 63, 3) := by decide +kernel
theorem d69_12 : decode (mB 69) 12 = .ok (.ifCond .le 146, 3) := by decide +kernel
theorem d69_15 : decode (mB 69) 15 = .ok (.aload_n 0, 1) := by decide +kernel
theorem d69_16 : decode (mB 69) 16 = .ok (.invokevirtual 101, 3) := by decide +kernel
theorem d69_19 : decode (mB 69) 19 = .ok (.iconst (-1), 1) := by decide +kernel
theorem d69_20 : decode (mB 69) 20 = .ok (.if_icmp .ne 138, 3) := by decide +kernel
theorem d69_23 : decode (mB 69) 23 = .ok (.aload_n 0, 1) := by decide +kernel
theorem d69_24 : decode (mB 69) 24 = .ok (.getfield 24, 3) := by decide +kernel
theorem d69_27 : decode (mB 69) 27 = .ok (.aload_n 0, 1) := by decide +kernel
theorem d69_28 : decode (mB 69) 28 = .ok (.getfield 63, 3) := by decide +kernel
theorem d69_31 : decode (mB 69) 31 = .ok (.aaload, 1) := by decide +kernel
theorem d69_32 : decode (mB 69) 32 = .ok (.astore_n 2, 1) := by decide +kernel
theorem d69_33 : decode (mB 69) 33 = .ok (.aload_n 0, 1) := by decide +kernel
theorem d69_34 : decode (mB 69) 34 = .ok (.getfield 36, 3) := by decide +kernel
theorem d69_37 : decode (mB 69) 37 = .ok (.getfield 112, 3) := by decide +kernel
theorem d69_40 : decode (mB 69) 40 = .ok (.aload_n 2, 1) := by decide +kernel
theorem d69_41 : decode (mB 69) 41 = .ok (.getfield 124, 3) := by decide +kernel
theorem d69_44 : decode (mB 69) 44 = .ok (.iaload, 1) := by decide +kernel
theorem d69_45 : decode (mB 69) 45 = .ok (.istore_n 3, 1) := by decide +kernel
theorem d69_46 : decode (mB 69) 46 = .ok (.iload_n 3, 1) := by decide +kernel
theorem d69_47 : decode (mB 69) 47 = .ok (.bipush 20, 2) := by decide +kernel
theorem d69_49 : decode (mB 69) 49 = .ok (.if_icmp .ne 37, 3) := by decide +kernel
theorem d69_52 : decode (mB 69) 52 = .ok (.aload_n 2, 1) := by decide +kernel
theorem d69_53 : decode (mB 69) 53 = .ok (.getfield 152, 3) := by decide +kernel
theorem d69_56 : decode (mB 69) 56 = .ok (.iconst 1, 1) := by decide +kernel
theorem d69_57 : decode (mB 69) 57 = .ok (.if_icmp .ge 29, 3) := by decide +kernel
theorem d69_60 : decode (mB 69) 60 = .ok (.aload_n 0, 1) := by decide +kernel
theorem d69_61 : decode (mB 69) 61 = .ok (.aload_n 2, 1) := by decide +kernel
theorem d69_62 : decode (mB 69) 62 = .ok (.iconst 1, 1) := by decide +kernel
theorem d69_63 : decode (mB 69) 63 = .ok (.aload_n 2, 1) := by decide +kernel
theorem d69_64 : decode (mB 69) 64 = .ok (.getfield 135, 3) := by decide +kernel
theorem d69_67 : decode (mB 69) 67 = .ok (.invokevirtual 155, 3) := by decide +kernel
theorem d69_70 : decode (mB 69) 70 = .ok (.aload_n 0, 1) := by decide +kernel
theorem d69_71 : decode (mB 69) 71 = .ok (.getfield 32, 3) := by decide +kernel
theorem d69_74 : decode (mB 69) 74 = .ok (.iconst 2, 1) := by decide +kernel
theorem d69_75 : decode (mB 69) 75 = .ok (.aload_n 0, 1) := by decide +kernel
theorem d69_76 : decode (mB 69) 76 = .ok (.getfield 28, 3) := by decide +kernel
theorem d69_79 : decode (mB 69) 79 = .ok (.lconst 0, 1) := by decide +kernel
theorem d69_80 : decode (mB 69) 80 = .ok (.invokevirtual 82, 3) := by decide +kernel
theorem d69_83 : decode (mB 69) 83 = .ok (.goto 69, 3) := by decide +kernel
theorem d69_86 : decode (mB 69) 86 = .ok (.iload_n 3, 1) := by decide +kernel
theorem d69_87 : decode (mB 69) 87 = .ok (.bipush 20, 2) := by decide +kernel
theorem d69_89 : decode (mB 69) 89 = .ok (.if_icmp .ne 19, 3) := by decide +kernel
theorem d69_92 : decode (mB 69) 92 = .ok (.aload_n 2, 1) := by decide +kernel
theorem d69_93 : decode (mB 69) 93 = .ok (.getfield 152, 3) := by decide +kernel
theorem d69_96 : decode (mB 69) 96 = .ok (.iconst 2, 1) := by decide +kernel
theorem d69_97 : decode (mB 69) 97 = .ok (.if_icmp .ge 11, 3) := by decide +kernel
theorem d69_100 : decode (mB 69) 100 = .ok (.aload_n 0, 1) := by decide +kernel
theorem d69_101 : decode (mB 69) 101 = .ok (.aload_n 2, 1) := by decide +kernel
theorem d69_102 : decode (mB 69) 102 = .ok (.invokevirtual 159, 3) := by decide +kernel
theorem d69_105 : decode (mB 69) 105 = .ok (.goto 47, 3) := by decide +kernel
theorem d69_108 : decode (mB 69) 108 = .ok (.aload_n 2, 1) := by decide +kernel
theorem d69_109 : decode (mB 69) 109 = .ok (.getfield 94, 3) := by decide +kernel
theorem d69_112 : decode (mB 69) 112 = .ok (.ifCond .eq 25, 3) := by decide +kernel
theorem d69_115 : decode (mB 69) 115 = .ok (.aload_n 0, 1) := by decide +kernel
theorem d69_116 : decode (mB 69) 116 = .ok (.aload_n 2, 1) := by decide +kernel
theorem d69_117 : decode (mB 69) 117 = .ok (.getfield 162, 3) := by decide +kernel
theorem d69_120 : decode (mB 69) 120 = .ok (.putfield 88, 3) := by decide +kernel
theorem d69_123 : decode (mB 69) 123 = .ok (.aload_n 0, 1) := by decide +kernel
theorem d69_124 : decode (mB 69) 124 = .ok (.aload_n 2, 1) := by decide +kernel
theorem d69_125 : decode (mB 69) 125 = .ok (.getfield 165, 3) := by decide +kernel
theorem d69_128 : decode (mB 69) 128 = .ok (.putfield 168, 3) := by decide +kernel
theorem d69_131 : decode (mB 69) 131 = .ok (.aload_n 0, 1) := by decide +kernel
theorem d69_132 : decode (mB 69) 132 = .ok (.invokevirtual 171, 3) := by decide +kernel
theorem d69_135 : decode (mB 69) 135 = .ok (.iconst 1, 1) := by decide +kernel
theorem d69_136 : decode (mB 69) 136 = .ok (.ireturn, 1) := by decide +kernel
theorem d69_137 : decode (mB 69) 137 = .ok (.aload_n 0, 1) := by decide +kernel
theorem d69_138 : decode (mB 69) 138 = .ok (.invokevirtual 171, 3) := by decide +kernel
theorem d69_141 : decode (mB 69) 141 = .ok (.iload_n 3, 1) := by decide +kernel
theorem d69_142 : decode (mB 69) 142 = .ok (.bipush 8, 2) := by decide +kernel
theorem d69_144 : decode (mB 69) 144 = .ok (.if_icmp .eq 8, 3) := by decide +kernel
theorem d69_147 : decode (mB 69) 147 = .ok (.aload_n 0, 1) := by decide +kernel
theorem d69_148 : decode (mB 69) 148 = .ok (.invokevirtual 109, 3) := by decide +kernel
theorem d69_151 : decode (mB 69) 151 = .ok (.pop, 1) := by decide +kernel
theorem d69_152 : decode (mB 69) 152 = .ok (.iinc 1 1, 3) := by decide +kernel
theorem d69_155 : decode (mB 69) 155 = .ok (.goto (-153), 3) := by decide +kernel
theorem d69_158 : decode (mB 69) 158 = .ok (.iconst 0, 1) := by decide +kernel
theorem d69_159 : decode (mB 69) 159 = .ok (.ireturn, 1) := by decide +kernel
theorem d74_0 : decode (mB 74) 0 = .ok (.aload_n 0, 1) := by decide +kernel
theorem d74_1 : decode (mB 74) 1 = .ok (.aload_n 1, 1) := by decide +kernel
theorem d74_2 : decode (mB 74) 2 = .ok (.iconst 2, 1) := by decide +kernel
theorem d74_3 : decode (mB 74) 3 = .ok (.aload_n 1, 1) := by decide +kernel
theorem d74_4 : decode (mB 74) 4 = .ok (.getfield 135, 3) := by decide +kernel
theorem d74_7 : decode (mB 74) 7 = .ok (.iconst 1, 1) := by decide +kernel
theorem d74_8 : decode (mB 74) 8 = .ok (.invokestatic 174, 3) := by decide +kernel
theorem d74_11 : decode (mB 74) 11 = .ok (.invokevirtual 155, 3) := by decide +kernel
theorem d74_14 : decode (mB 74) 14 = .ok (.aload_n 0, 1) := by decide +kernel
theorem d74_15 : decode (mB 74) 15 = .ok (.getfield 32, 3) := by decide +kernel
theorem d74_18 : decode (mB 74) 18 = .ok (.iconst 3, 1) := by decide +kernel
theorem d74_19 : decode (mB 74) 19 = .ok (.aload_n 0, 1) := by decide +kernel
theorem d74_20 : decode (mB 74) 20 = .ok (.getfield 28, 3) := by decide +kernel
theorem d74_23 : decode (mB 74) 23 = .ok (.lconst 0, 1) := by decide +kernel
theorem d74_24 : decode (mB 74) 24 = .ok (.invokevirtual 82, 3) := by decide +kernel
theorem d74_27 : decode (mB 74) 27 = .ok (.return_, 1) := by decide +kernel
theorem d93_0 : decode (mB 93) 0 = .ok (.aload_n 0, 1) := by decide +kernel
theorem d93_1 : decode (mB 93) 1 = .ok (.getfield 63, 3) := by decide +kernel
theorem d93_4 : decode (mB 93) 4 = .ok (.istore_n 1, 1) := by decide +kernel
theorem d93_5 : decode (mB 93) 5 = .ok (.iload_n 1, 1) := by decide +kernel
theorem d93_6 : decode (mB 93) 6 = .ok (.ifCond .le 28, 3) := by decide +kernel
theorem d93_9 : decode (mB 93) 9 = .ok (.aload_n 0, 1) := by decide +kernel
theorem d93_10 : decode (mB 93) 10 = .ok (.aload_n 0, 1) := by decide +kernel
theorem d93_11 : decode (mB 93) 11 = .ok (.getfield 24, 3) := by decide +kernel
theorem d93_14 : decode (mB 93) 14 = .ok (.iload_n 1, 1) := by decide +kernel
theorem d93_15 : decode (mB 93) 15 = .ok (.aaload, 1) := by decide +kernel
theorem d93_16 : decode (mB 93) 16 = .ok (.invokevirtual 179, 3) := by decide +kernel
theorem d93_19 : decode (mB 93) 19 = .ok (.ifCond .eq 5, 3) := by decide +kernel
theorem d93_22 : decode (mB 93) 22 = .ok (.iconst 1, 1) := by decide +kernel
theorem d93_23 : decode (mB 93) 23 = .ok (.ireturn, 1) := by decide +kernel
theorem d93_24 : decode (mB 93) 24 = .ok (.aload_n 0, 1) := by decide +kernel
theorem d93_25 : decode (mB 93) 25 = .ok (.invokevirtual 171, 3) := by decide +kernel
theorem d93_28 : decode (mB 93) 28 = .ok (.iinc 1 (-1), 3) := by decide +kernel
theorem d93_31 : decode (mB 93) 31 = .ok (.goto (-26), 3) := by decide +kernel
theorem d93_34 : decode (mB 93) 34 = .ok (.aload_n 0, 1) := by decide +kernel
theorem d93_35 : decode (mB 93) 35 = .ok (.invokevirtual 183, 3) := by decide +kernel
theorem d93_38 : decode (mB 93) 38 = .ok (.ireturn, 1) := by decide +kernel
theorem d94_0 : decode (mB 94) 0 = .ok (.aload_n 0, 1) := by decide +kernel
theorem d94_1 : decode (mB 94) 1 = .ok (.getfield 36, 3) := by decide +kernel
theorem d94_4 : decode (mB 94) 4 = .ok (.getfield 112, 3) := by decide +kernel
theorem d94_7 : decode (mB 94) 7 = .ok (.aload_n 1, 1) := by decide +kernel
theorem d94_8 : decode (mB 94) 8 = .ok (.getfield 124, 3) := by decide +kernel
theorem d94_11 : decode (mB 94) 11 = .ok (.iaload, 1) := by decide +kernel
theorem d94_12 : decode (mB 94) 12 = .ok (.istore_n 2, 1) := by decide +kernel
theorem d94_13 : decode (mB 94) 13 = .ok (.iload_n 2, 1) := by decide +kernel
theorem d94_14 : decode (mB 94) 14 = .ok (.bipush 18, 2) := by decide +kernel
theorem d94_16 : decode (mB 94) 16 = .ok (.if_icmp .ne 54, 3) := by decide +kernel
theorem d94_19 : decode (mB 94) 19 = .ok (.aload_n 1, 1) := by decide +kernel
theorem d94_20 : decode (mB 94) 20 = .ok (.getfield 152, 3) := by decide +kernel
theorem d94_23 : decode (mB 94) 23 = .ok (.ifCond .ne 47, 3) := by decide +kernel
theorem d94_26 : decode (mB 94) 26 = .ok (.aload_n 0, 1) := by decide +kernel
theorem d94_27 : decode (mB 94) 27 = .ok (.getfield 168, 3) := by decide +kernel
theorem d94_30 : decode (mB 94) 30 = .ok (.ifCond .ne 40, 3) := by decide +kernel
theorem d94_33 : decode (mB 94) 33 = .ok (.aload_n 0, 1) := by decide +kernel
theorem d94_34 : decode (mB 94) 34 = .ok (.getfield 18, 3) := by decide +kernel
theorem d94_37 : decode (mB 94) 37 = .ok (.aload_n 0, 1) := by decide +kernel
theorem d94_38 : decode (mB 94) 38 = .ok (.getfield 36, 3) := by decide +kernel
theorem d94_41 : decode (mB 94) 41 = .ok (.getfield 186, 3) := by decide +kernel
theorem d94_44 : decode (mB 94) 44 = .ok (.aload_n 1, 1) := by decide +kernel
theorem d94_45 : decode (mB 94) 45 = .ok (.getfield 124, 3) := by decide +kernel
theorem d94_48 : decode (mB 94) 48 = .ok (.iaload, 1) := by decide +kernel
theorem d94_49 : decode (mB 94) 49 = .ok (.aload_n 0, 1) := by decide +kernel
theorem d94_50 : decode (mB 94) 50 = .ok (.getfield 88, 3) := by decide +kernel
theorem d94_53 : decode (mB 94) 53 = .ok (.lastore, 1) := by decide +kernel
theorem d94_54 : decode (mB 94) 54 = .ok (.aload_n 0, 1) := by decide +kernel
theorem d94_55 : decode (mB 94) 55 = .ok (.aload_n 1, 1) := by decide +kernel
theorem d94_56 : decode (mB 94) 56 = .ok (.iconst 1, 1) := by decide +kernel
theorem d94_57 : decode (mB 94) 57 = .ok (.aload_n 1, 1) := by decide +kernel
theorem d94_58 : decode (mB 94) 58 = .ok (.getfield 135, 3) := by decide +kernel
theorem d94_61 : decode (mB 94) 61 = .ok (.iconst 1, 1) := by decide +kernel
theorem d94_62 : decode (mB 94) 62 = .ok (.invokestatic 174, 3) := by decide +kernel
theorem d94_65 : decode (mB 94) 65 = .ok (.invokevirtual 155, 3) := by decide +kernel
theorem d94_68 : decode (mB 94) 68 = .ok (.iconst 1, 1) := by decide +kernel
theorem d94_69 : decode (mB 94) 69 = .ok (.ireturn, 1) := by decide +kernel
theorem d94_70 : decode (mB 94) 70 = .ok (.iload_n 2, 1) := by decide +kernel
theorem d94_71 : decode (mB 94) 71 = .ok (.bipush 20, 2) := by decide +kernel
theorem d94_73 : decode (mB 94) 73 = .ok (.if_icmp .ne 39, 3) := by decide +kernel
theorem d94_76 : decode (mB 94) 76 = .ok (.aload_n 1, 1) := by decide +kernel
theorem d94_77 : decode (mB 94) 77 = .ok (.getfield 152, 3) := by decide +kernel
theorem d94_80 : decode (mB 94) 80 = .ok (.iconst 1, 1) := by decide +kernel
theorem d94_81 : decode (mB 94) 81 = .ok (.if_icmp .ne 31, 3) := by decide +kernel
theorem d94_84 : decode (mB 94) 84 = .ok (.aload_n 0, 1) := by decide +kernel
theorem d94_85 : decode (mB 94) 85 = .ok (.aload_n 1, 1) := by decide +kernel
theorem d94_86 : decode (mB 94) 86 = .ok (.invokevirtual 159, 3) := by decide +kernel
theorem d94_89 : decode (mB 94) 89 = .ok (.aload_n 1, 1) := by decide +kernel
theorem d94_90 : decode (mB 94) 90 = .ok (.iconst 1, 1) := by decide +kernel
theorem d94_91 : decode (mB 94) 91 = .ok (.putfield 94, 3) := by decide +kernel
theorem d94_94 : decode (mB 94) 94 = .ok (.aload_n 1, 1) := by decide +kernel
theorem d94_95 : decode (mB 94) 95 = .ok (.aload_n 0, 1) := by decide +kernel
theorem d94_96 : decode (mB 94) 96 = .ok (.getfield 88, 3) := by decide +kernel
theorem d94_99 : decode (mB 94) 99 = .ok (.putfield 162, 3) := by decide +kernel
theorem d94_102 : decode (mB 94) 102 = .ok (.aload_n 1, 1) := by decide +kernel
theorem d94_103 : decode (mB 94) 103 = .ok (.aload_n 0, 1) := by decide +kernel
theorem d94_104 : decode (mB 94) 104 = .ok (.getfield 168, 3) := by decide +kernel
theorem d94_107 : decode (mB 94) 107 = .ok (.putfield 165, 3) := by decide +kernel
theorem d94_110 : decode (mB 94) 110 = .ok (.iconst 1, 1) := by decide +kernel
theorem d94_111 : decode (mB 94) 111 = .ok (.ireturn, 1) := by decide +kernel
theorem d94_112 : decode (mB 94) 112 = .ok (.iload_n 2, 1) := by decide +kernel
theorem d94_113 : decode (mB 94) 113 = .ok (.bipush 23, 2) := by decide +kernel
theorem d94_115 : decode (mB 94) 115 = .ok (.if_icmp .ne 37, 3) := by decide +kernel
theorem d94_118 : decode (mB 94) 118 = .ok (.aload_n 1, 1) := by decide +kernel
theorem d94_119 : decode (mB 94) 119 = .ok (.getfield 152, 3) := by decide +kernel
theorem d94_122 : decode (mB 94) 122 = .ok (.ifCond .ne 30, 3) := by decide +kernel
theorem d94_125 : decode (mB 94) 125 = .ok (.aload_n 0, 1) := by decide +kernel
theorem d94_126 : decode (mB 94) 126 = .ok (.getfield 168, 3) := by decide +kernel
theorem d94_129 : decode (mB 94) 129 = .ok (.aload_n 0, 1) := by decide +kernel
theorem d94_130 : decode (mB 94) 130 = .ok (.getfield 63, 3) := by decide +kernel
theorem d94_133 : decode (mB 94) 133 = .ok (.if_icmp .ne 19, 3) := by decide +kernel
theorem d94_136 : decode (mB 94) 136 = .ok (.aload_n 0, 1) := by decide +kernel
theorem d94_137 : decode (mB 94) 137 = .ok (.invokevirtual 171, 3) := by decide +kernel
theorem d94_140 : decode (mB 94) 140 = .ok (.aload_n 0, 1) := by decide +kernel
theorem d94_141 : decode (mB 94) 141 = .ok (.iconst 1, 1) := by decide +kernel
theorem d94_142 : decode (mB 94) 142 = .ok (.aload_n 0, 1) := by decide +kernel
theorem d94_143 : decode (mB 94) 143 = .ok (.getfield 60, 3) := by decide +kernel
theorem d94_146 : decode (mB 94) 146 = .ok (.invokevirtual 189, 3) := by decide +kernel
theorem d94_149 : decode (mB 94) 149 = .ok (.pop, 1) := by decide +kernel
theorem d94_150 : decode (mB 94) 150 = .ok (.iconst 1, 1) := by decide +kernel
theorem d94_151 : decode (mB 94) 151 = .ok (.ireturn, 1) := by decide +kernel
theorem d94_152 : decode (mB 94) 152 = .ok (.iconst 0, 1) := by decide +kernel
theorem d94_153 : decode (mB 94) 153 = .ok (.ireturn, 1) := by decide +kernel
theorem d113_0 : decode (mB 113) 0 = .ok (.aload_n 0, 1) := by decide +kernel
theorem d113_1 : decode (mB 113) 1 = .ok (.aload_n 1, 1) := by decide +kernel
theorem d113_2 : decode (mB 113) 2 = .ok (.getfield 28, 3) := by decide +kernel
theorem d113_5 : decode (mB 113) 5 = .ok (.putfield 28, 3) := by decide +kernel
theorem d113_8 : decode (mB 113) 8 = .ok (.aload_n 0, 1) := by decide +kernel
theorem d113_9 : decode (mB 113) 9 = .ok (.aload_n 1, 1) := by decide +kernel
theorem d113_10 : decode (mB 113) 10 = .ok (.getfield 36, 3) := by decide +kernel
theorem d113_13 : decode (mB 113) 13 = .ok (.putfield 36, 3) := by decide +kernel
theorem d113_16 : decode (mB 113) 16 = .ok (.aload_n 0, 1) := by decide +kernel
theorem d113_17 : decode (mB 113) 17 = .ok (.aload_n 1, 1) := by decide +kernel
theorem d113_18 : decode (mB 113) 18 = .ok (.getfield 44, 3) := by decide +kernel
theorem d113_21 : decode (mB 113) 21 = .ok (.putfield 44, 3) := by decide +kernel
theorem d113_24 : decode (mB 113) 24 = .ok (.aload_n 0, 1) := by decide +kernel
theorem d113_25 : decode (mB 113) 25 = .ok (.aload_n 1, 1) := by decide +kernel
theorem d113_26 : decode (mB 113) 26 = .ok (.getfield 60, 3) := by decide +kernel
theorem d113_29 : decode (mB 113) 29 = .ok (.putfield 60, 3) := by decide +kernel
theorem d113_32 : decode (mB 113) 32 = .ok (.aload_n 0, 1) := by decide +kernel
theorem d113_33 : decode (mB 113) 33 = .ok (.aload_n 1, 1) := by decide +kernel
theorem d113_34 : decode (mB 113) 34 = .ok (.getfield 63, 3) := by decide +kernel
theorem d113_37 : decode (mB 113) 37 = .ok (.putfield 63, 3) := by decide +kernel
theorem d113_40 : decode (mB 113) 40 = .ok (.aload_n 0, 1) := by decide +kernel
theorem d113_41 : decode (mB 113) 41 = .ok (.aload_n 1, 1) := by decide +kernel
theorem d113_42 : decode (mB 113) 42 = .ok (.getfield 66, 3) := by decide +kernel
theorem d113_45 : decode (mB 113) 45 = .ok (.putfield 66, 3) := by decide +kernel
theorem d113_48 : decode (mB 113) 48 = .ok (.aload_n 0, 1) := by decide +kernel
theorem d113_49 : decode (mB 113) 49 = .ok (.aload_n 1, 1) := by decide +kernel
theorem d113_50 : decode (mB 113) 50 = .ok (.getfield 40, 3) := by decide +kernel
theorem d113_53 : decode (mB 113) 53 = .ok (.putfield 40, 3) := by decide +kernel
theorem d113_56 : decode (mB 113) 56 = .ok (.aload_n 0, 1) := by decide +kernel
theorem d113_57 : decode (mB 113) 57 = .ok (.getfield 12, 3) := by decide +kernel
theorem d113_60 : decode (mB 113) 60 = .ok (.aload_n 1, 1) := by decide +kernel
theorem d113_61 : decode (mB 113) 61 = .ok (.getfield 12, 3) := by decide +kernel
theorem d113_64 : decode (mB 113) 64 = .ok (.invokevirtual 192, 3) := by decide +kernel
theorem d113_67 : decode (mB 113) 67 = .ok (.iconst 0, 1) := by decide +kernel
theorem d113_68 : decode (mB 113) 68 = .ok (.istore_n 2, 1) := by decide +kernel
theorem d113_69 : decode (mB 113) 69 = .ok (.iload_n 2, 1) := by decide +kernel
theorem d113_70 : decode (mB 113) 70 = .ok (.aload_n 0, 1) := by decide +kernel
theorem d113_71 : decode (mB 113) 71 = .ok (.getfield 63, 3) := by decide +kernel
theorem d113_74 : decode (mB 113) 74 = .ok (.if_icmp .gt 24, 3) := by decide +kernel
theorem d113_77 : decode (mB 113) 77 = .ok (.aload_n 0, 1) := by decide +kernel
theorem d113_78 : decode (mB 113) 78 = .ok (.getfield 24, 3) := by decide +kernel
theorem d113_81 : decode (mB 113) 81 = .ok (.iload_n 2, 1) := by decide +kernel
theorem d113_82 : decode (mB 113) 82 = .ok (.aaload, 1) := by decide +kernel
theorem d113_83 : decode (mB 113) 83 = .ok (.aload_n 1, 1) := by decide +kernel
theorem d113_84 : decode (mB 113) 84 = .ok (.getfield 24, 3) := by decide +kernel
theorem d113_87 : decode (mB 113) 87 = .ok (.iload_n 2, 1) := by decide +kernel
theorem d113_88 : decode (mB 113) 88 = .ok (.aaload, 1) := by decide +kernel
theorem d113_89 : decode (mB 113) 89 = .ok (.invokevirtual 196, 3) := by decide +kernel
theorem d113_92 : decode (mB 113) 92 = .ok (.iinc 2 1, 3) := by decide +kernel
theorem d113_95 : decode (mB 113) 95 = .ok (.goto (-26), 3) := by decide +kernel
theorem d113_98 : decode (mB 113) 98 = .ok (.return_, 1) := by decide +kernel
theorem d2_0 : decode (mB 2) 0 = .ok (.aload_n 0, 1) := by decide +kernel
theorem d2_1 : decode (mB 2) 1 = .ok (.invokespecial 3, 3) := by decide +kernel
theorem d2_4 : decode (mB 2) 4 = .ok (.aload_n 0, 1) := by decide +kernel
theorem d2_5 : decode (mB 2) 5 = .ok (.new 9, 3) := by decide +kernel
theorem d2_8 : decode (mB 2) 8 = .ok (.dup, 1) := by decide +kernel
theorem d2_9 : decode (mB 2) 9 = .ok (.invokespecial 11, 3) := by decide +kernel
theorem d2_12 : decode (mB 2) 12 = .ok (.putfield 12, 3) := by decide +kernel
theorem d2_15 : decode (mB 2) 15 = .ok (.return_, 1) := by decide +kernel
theorem d14_0 : decode (mB 14) 0 = .ok (.aload_n 0, 1) := by decide +kernel
theorem d14_1 : decode (mB 14) 1 = .ok (.getfield 12, 3) := by decide +kernel
theorem d14_4 : decode (mB 14) 4 = .ok (.aload_n 1, 1) := by decide +kernel
theorem d14_5 : decode (mB 14) 5 = .ok (.iload_n 2, 1) := by decide +kernel
theorem d14_6 : decode (mB 14) 6 = .ok (.invokevirtual 18, 3) := by decide +kernel
theorem d14_9 : decode (mB 14) 9 = .ok (.aload_n 3, 1) := by decide +kernel
theorem d14_10 : decode (mB 14) 10 = .ok (.invokevirtual 22, 3) := by decide +kernel
theorem d14_13 : decode (mB 14) 13 = .ok (.aload_n 0, 1) := by decide +kernel
theorem d14_14 : decode (mB 14) 14 = .ok (.aload_n 3, 1) := by decide +kernel
theorem d14_15 : decode (mB 14) 15 = .ok (.putfield 27, 3) := by decide +kernel
theorem d14_18 : decode (mB 14) 18 = .ok (.aload_n 0, 1) := by decide +kernel
theorem d14_19 : decode (mB 14) 19 = .ok (.iconst 0, 1) := by decide +kernel
theorem d14_20 : decode (mB 14) 20 = .ok (.putfield 31, 3) := by decide +kernel
theorem d14_23 : decode (mB 14) 23 = .ok (.aload_n 0, 1) := by decide +kernel
theorem d14_24 : decode (mB 14) 24 = .ok (.bipush 120, 2) := by decide +kernel
theorem d14_26 : decode (mB 14) 26 = .ok (.iconst 0, 1) := by decide +kernel
theorem d14_27 : decode (mB 14) 27 = .ok (.iconst 0, 1) := by decide +kernel
theorem d14_28 : decode (mB 14) 28 = .ok (.invokevirtual 35, 3) := by decide +kernel
theorem d14_31 : decode (mB 14) 31 = .ok (.istore 4, 2) := by decide +kernel
theorem d14_33 : decode (mB 14) 33 = .ok (.iload 4, 2) := by decide +kernel
theorem d14_35 : decode (mB 14) 35 = .ok (.ifCond .eq 7, 3) := by decide +kernel
theorem d14_38 : decode (mB 14) 38 = .ok (.iconst (-1), 1) := by decide +kernel
theorem d14_39 : decode (mB 14) 39 = .ok (.goto 15, 3) := by decide +kernel
theorem d14_42 : decode (mB 14) 42 = .ok (.aload_n 0, 1) := by decide +kernel
theorem d14_43 : decode (mB 14) 43 = .ok (.getfield 12, 3) := by decide +kernel
theorem d14_46 : decode (mB 14) 46 = .ok (.getfield 39, 3) := by decide +kernel
theorem d14_49 : decode (mB 14) 49 = .ok (.aload_n 0, 1) := by decide +kernel
theorem d14_50 : decode (mB 14) 50 = .ok (.getfield 31, 3) := by decide +kernel
theorem d14_53 : decode (mB 14) 53 = .ok (.iaload, 1) := by decide +kernel
theorem d14_54 : decode (mB 14) 54 = .ok (.ireturn, 1) := by decide +kernel
theorem d36_0 : decode (mB 36) 0 = .ok (.aload_n 0, 1) := by decide +kernel
theorem d36_1 : decode (mB 36) 1 = .ok (.getfield 27, 3) := by decide +kernel
theorem d36_4 : decode (mB 36) 4 = .ok (.getfield 43, 3) := by decide +kernel
theorem d36_7 : decode (mB 36) 7 = .ok (.iload_n 1, 1) := by decide +kernel
theorem d36_8 : decode (mB 36) 8 = .ok (.iconst (-1), 1) := by decide +kernel
theorem d36_9 : decode (mB 36) 9 = .ok (.iastore, 1) := by decide +kernel
theorem d36_10 : decode (mB 36) 10 = .ok (.iconst (-1), 1) := by decide +kernel
theorem d36_11 : decode (mB 36) 11 = .ok (.istore 4, 2) := by decide +kernel
theorem d36_13 : decode (mB 36) 13 = .ok (.iconst 0, 1) := by decide +kernel
theorem d36_14 : decode (mB 36) 14 = .ok (.istore 5, 2) := by decide +kernel
theorem d36_16 : decode (mB 36) 16 = .ok (.iload 5, 2) := by decide +kernel
theorem d36_18 : decode (mB 36) 18 = .ok (.bipush 40, 2) := by decide +kernel
theorem d36_20 : decode (mB 36) 20 = .ok (.if_icmp .gt 80, 3) := by decide +kernel
theorem d36_23 : decode (mB 36) 23 = .ok (.aload_n 0, 1) := by decide +kernel
theorem d36_24 : decode (mB 36) 24 = .ok (.getfield 12, 3) := by decide +kernel
theorem d36_27 : decode (mB 36) 27 = .ok (.getfield 46, 3) := by decide +kernel
theorem d36_30 : decode (mB 36) 30 = .ok (.aload_n 0, 1) := by decide +kernel
theorem d36_31 : decode (mB 36) 31 = .ok (.getfield 31, 3) := by decide +kernel
theorem d36_34 : decode (mB 36) 34 = .ok (.iaload, 1) := by decide +kernel
theorem d36_35 : decode (mB 36) 35 = .ok (.iload_n 3, 1) := by decide +kernel
theorem d36_36 : decode (mB 36) 36 = .ok (.if_icmp .eq 64, 3) := by decide +kernel
theorem d36_39 : decode (mB 36) 39 = .ok (.aload_n 0, 1) := by decide +kernel
theorem d36_40 : decode (mB 36) 40 = .ok (.getfield 27, 3) := by decide +kernel
theorem d36_43 : decode (mB 36) 43 = .ok (.getfield 49, 3) := by decide +kernel
theorem d36_46 : decode (mB 36) 46 = .ok (.istore 6, 2) := by decide +kernel
theorem d36_48 : decode (mB 36) 48 = .ok (.aload_n 0, 1) := by decide +kernel
theorem d36_49 : decode (mB 36) 49 = .ok (.iload_n 2, 1) := by decide +kernel
theorem d36_50 : decode (mB 36) 50 = .ok (.invokevirtual 52, 3) := by decide +kernel
theorem d36_53 : decode (mB 36) 53 = .ok (.ifCond .ne 5, 3) := by decide +kernel
theorem d36_56 : decode (mB 36) 56 = .ok (.iconst 0, 1) := by decide +kernel
theorem d36_57 : decode (mB 36) 57 = .ok (.ireturn, 1) := by decide +kernel
theorem d36_58 : decode (mB 36) 58 = .ok (.iload 4, 2) := by decide +kernel
theorem d36_60 : decode (mB 36) 60 = .ok (.iconst (-1), 1) := by decide +kernel
theorem d36_61 : decode (mB 36) 61 = .ok (.if_icmp .ne 17, 3) := by decide +kernel
theorem d36_64 : decode (mB 36) 64 = .ok (.aload_n 0, 1) := by decide +kernel
theorem d36_65 : decode (mB 36) 65 = .ok (.getfield 27, 3) := by decide +kernel
theorem d36_68 : decode (mB 36) 68 = .ok (.getfield 43, 3) := by decide +kernel
theorem d36_71 : decode (mB 36) 71 = .ok (.iload_n 1, 1) := by decide +kernel
theorem d36_72 : decode (mB 36) 72 = .ok (.iload 6, 2) := by decide +kernel
theorem d36_74 : decode (mB 36) 74 = .ok (.iastore, 1) := by decide +kernel
theorem d36_75 : decode (mB 36) 75 = .ok (.goto 15, 3) := by decide +kernel
theorem d36_78 : decode (mB 36) 78 = .ok (.aload_n 0, 1) := by decide +kernel
theorem d36_79 : decode (mB 36) 79 = .ok (.getfield 27, 3) := by decide +kernel
theorem d36_82 : decode (mB 36) 82 = .ok (.getfield 56, 3) := by decide +kernel
theorem d36_85 : decode (mB 36) 85 = .ok (.iload 4, 2) := by decide +kernel
theorem d36_87 : decode (mB 36) 87 = .ok (.iload 6, 2) := by decide +kernel
theorem d36_89 : decode (mB 36) 89 = .ok (.iastore, 1) := by decide +kernel
theorem d36_90 : decode (mB 36) 90 = .ok (.iload 6, 2) := by decide +kernel
theorem d36_92 : decode (mB 36) 92 = .ok (.istore 4, 2) := by decide +kernel
theorem d36_94 : decode (mB 36) 94 = .ok (.iinc 5 1, 3) := by decide +kernel
theorem d36_97 : decode (mB 36) 97 = .ok (.goto (-81), 3) := by decide +kernel
theorem d36_100 : decode (mB 36) 100 = .ok (.iconst 1, 1) := by decide +kernel
theorem d36_101 : decode (mB 36) 101 = .ok (.ireturn, 1) := by decide +kernel
theorem d37_0 : decode (mB 37) 0 = .ok (.aload_n 0, 1) := by decide +kernel
theorem d37_1 : decode (mB 37) 1 = .ok (.getfield 12, 3) := by decide +kernel
theorem d37_4 : decode (mB 37) 4 = .ok (.getfield 46, 3) := by decide +kernel
theorem d37_7 : decode (mB 37) 7 = .ok (.aload_n 0, 1) := by decide +kernel
theorem d37_8 : decode (mB 37) 8 = .ok (.getfield 31, 3) := by decide +kernel
theorem d37_11 : decode (mB 37) 11 = .ok (.iaload, 1) := by decide +kernel
theorem d37_12 : decode (mB 37) 12 = .ok (.istore_n 2, 1) := by decide +kernel
theorem d37_13 : decode (mB 37) 13 = .ok (.aload_n 0, 1) := by decide +kernel
theorem d37_14 : decode (mB 37) 14 = .ok (.getfield 27, 3) := by decide +kernel
theorem d37_17 : decode (mB 37) 17 = .ok (.getfield 49, 3) := by decide +kernel
theorem d37_20 : decode (mB 37) 20 = .ok (.bipush 40, 2) := by decide +kernel
theorem d37_22 : decode (mB 37) 22 = .ok (.if_icmp .ge 10, 3) := by decide +kernel
theorem d37_25 : decode (mB 37) 25 = .ok (.iload_n 2, 1) := by decide +kernel
theorem d37_26 : decode (mB 37) 26 = .ok (.invokestatic 59, 3) := by decide +kernel
theorem d37_29 : decode (mB 37) 29 = .ok (.ifCond .ne 5, 3) := by decide +kernel
theorem d37_32 : decode (mB 37) 32 = .ok (.iconst 0, 1) := by decide +kernel
theorem d37_33 : decode (mB 37) 33 = .ok (.ireturn, 1) := by decide +kernel
theorem d37_34 : decode (mB 37) 34 = .ok (.aload_n 0, 1) := by decide +kernel
theorem d37_35 : decode (mB 37) 35 = .ok (.getfield 27, 3) := by decide +kernel
theorem d37_38 : decode (mB 37) 38 = .ok (.iload_n 2, 1) := by decide +kernel
theorem d37_39 : decode (mB 37) 39 = .ok (.invokevirtual 62, 3) := by decide +kernel
theorem d37_42 : decode (mB 37) 42 = .ok (.istore_n 3, 1) := by decide +kernel
theorem d37_43 : decode (mB 37) 43 = .ok (.iload_n 2, 1) := by decide +kernel
theorem d37_44 : decode (mB 37) 44 = .ok (.iconst 2, 1) := by decide +kernel
theorem d37_45 : decode (mB 37) 45 = .ok (.if_icmp .ne 43, 3) := by decide +kernel
theorem d37_48 : decode (mB 37) 48 = .ok (.aload_n 0, 1) := by decide +kernel
theorem d37_49 : decode (mB 37) 49 = .ok (.iload_n 3, 1) := by decide +kernel
theorem d37_50 : decode (mB 37) 50 = .ok (.invokevirtual 66, 3) := by decide +kernel
theorem d37_53 : decode (mB 37) 53 = .ok (.ifCond .eq 33, 3) := by decide +kernel
theorem d37_56 : decode (mB 37) 56 = .ok (.aload_n 0, 1) := by decide +kernel
theorem d37_57 : decode (mB 37) 57 = .ok (.bipush 61, 2) := by decide +kernel
theorem d37_59 : decode (mB 37) 59 = .ok (.invokevirtual 69, 3) := by decide +kernel
theorem d37_62 : decode (mB 37) 62 = .ok (.ifCond .eq 24, 3) := by decide +kernel
theorem d37_65 : decode (mB 37) 65 = .ok (.aload_n 0, 1) := by decide +kernel
theorem d37_66 : decode (mB 37) 66 = .ok (.iload_n 3, 1) := by decide +kernel
theorem d37_67 : decode (mB 37) 67 = .ok (.invokevirtual 72, 3) := by decide +kernel
theorem d37_70 : decode (mB 37) 70 = .ok (.ifCond .eq 16, 3) := by decide +kernel
theorem d37_73 : decode (mB 37) 73 = .ok (.aload_n 0, 1) := by decide +kernel
theorem d37_74 : decode (mB 37) 74 = .ok (.bipush 59, 2) := by decide +kernel
theorem d37_76 : decode (mB 37) 76 = .ok (.invokevirtual 69, 3) := by decide +kernel
theorem d37_79 : decode (mB 37) 79 = .ok (.ifCond .eq 7, 3) := by decide +kernel
theorem d37_82 : decode (mB 37) 82 = .ok (.iconst 1, 1) := by decide +kernel
theorem d37_83 : decode (mB 37) 83 = .ok (.goto 4, 3) := by decide +kernel
theorem d37_86 : decode (mB 37) 86 = .ok (.iconst 0, 1) := by decide +kernel
theorem d37_87 : decode (mB 37) 87 = .ok (.ireturn, 1) := by decide +kernel
theorem d37_88 : decode (mB 37) 88 = .ok (.aload_n 0, 1) := by decide +kernel
theorem d37_89 : decode (mB 37) 89 = .ok (.dup, 1) := by decide +kernel
theorem d37_90 : decode (mB 37) 90 = .ok (.getfield 31, 3) := by decide +kernel
theorem d37_93 : decode (mB 37) 93 = .ok (.iconst 1, 1) := by decide +kernel
theorem d37_94 : decode (mB 37) 94 = .ok (.iadd, 1) := by decide +kernel
theorem d37_95 : decode (mB 37) 95 = .ok (.putfield 31, 3) := by decide +kernel
theorem d37_98 : decode (mB 37) 98 = .ok (.iload_n 2, 1) := by decide +kernel
theorem d37_99 : decode (mB 37) 99 = .ok (.tableswitch 431 5 23 #[89, 112, 431, 145, 169, 431, 212, 431, 89, 255, 431, 431, 431, 298, 431, 341, 431, 431, 395], 89) := by decide +kernel
theorem d37_188 : decode (mB 37) 188 = .ok (.aload_n 0, 1) := by decide +kernel
theorem d37_189 : decode (mB 37) 189 = .ok (.iload_n 3, 1) := by decide +kernel
theorem d37_190 : decode (mB 37) 190 = .ok (.invokevirtual 72, 3) := by decide +kernel
theorem d37_193 : decode (mB 37) 193 = .ok (.ifCond .eq 16, 3) := by decide +kernel
theorem d37_196 : decode (mB 37) 196 = .ok (.aload_n 0, 1) := by decide +kernel
theorem d37_197 : decode (mB 37) 197 = .ok (.bipush 59, 2) := by decide +kernel
theorem d37_199 : decode (mB 37) 199 = .ok (.invokevirtual 69, 3) := by decide +kernel
theorem d37_202 : decode (mB 37) 202 = .ok (.ifCond .eq 7, 3) := by decide +kernel
theorem d37_205 : decode (mB 37) 205 = .ok (.iconst 1, 1) := by decide +kernel
theorem d37_206 : decode (mB 37) 206 = .ok (.goto 4, 3) := by decide +kernel
theorem d37_209 : decode (mB 37) 209 = .ok (.iconst 0, 1) := by decide +kernel
theorem d37_210 : decode (mB 37) 210 = .ok (.ireturn, 1) := by decide +kernel
theorem d37_211 : decode (mB 37) 211 = .ok (.aload_n 0, 1) := by decide +kernel
theorem d37_212 : decode (mB 37) 212 = .ok (.iload_n 3, 1) := by decide +kernel
theorem d37_213 : decode (mB 37) 213 = .ok (.invokevirtual 75, 3) := by decide +kernel
theorem d37_216 : decode (mB 37) 216 = .ok (.ifCond .eq 26, 3) := by decide +kernel
theorem d37_219 : decode (mB 37) 219 = .ok (.aload_n 0, 1) := by decide +kernel
theorem d37_220 : decode (mB 37) 220 = .ok (.iload_n 3, 1) := by decide +kernel
theorem d37_221 : decode (mB 37) 221 = .ok (.iconst 0, 1) := by decide +kernel
theorem d37_222 : decode (mB 37) 222 = .ok (.iload_n 1, 1) := by decide +kernel
theorem d37_223 : decode (mB 37) 223 = .ok (.invokevirtual 78, 3) := by decide +kernel
theorem d37_226 : decode (mB 37) 226 = .ok (.ifCond .eq 16, 3) := by decide +kernel
theorem d37_229 : decode (mB 37) 229 = .ok (.aload_n 0, 1) := by decide +kernel
theorem d37_230 : decode (mB 37) 230 = .ok (.iload_n 3, 1) := by decide +kernel
theorem d37_231 : decode (mB 37) 231 = .ok (.iload_n 1, 1) := by decide +kernel
theorem d37_232 : decode (mB 37) 232 = .ok (.invokevirtual 81, 3) := by decide +kernel
theorem d37_235 : decode (mB 37) 235 = .ok (.ifCond .eq 7, 3) := by decide +kernel
theorem d37_238 : decode (mB 37) 238 = .ok (.iconst 1, 1) := by decide +kernel
theorem d37_239 : decode (mB 37) 239 = .ok (.goto 4, 3) := by decide +kernel
theorem d37_242 : decode (mB 37) 242 = .ok (.iconst 0, 1) := by decide +kernel
theorem d37_243 : decode (mB 37) 243 = .ok (.ireturn, 1) := by decide +kernel
theorem d37_244 : decode (mB 37) 244 = .ok (.aload_n 0, 1) := by decide +kernel
theorem d37_245 : decode (mB 37) 245 = .ok (.iload_n 3, 1) := by decide +kernel
theorem d37_246 : decode (mB 37) 246 = .ok (.invokevirtual 75, 3) := by decide +kernel
theorem d37_249 : decode (mB 37) 249 = .ok (.ifCond .eq 17, 3) := by decide +kernel
theorem d37_252 : decode (mB 37) 252 = .ok (.aload_n 0, 1) := by decide +kernel
theorem d37_253 : decode (mB 37) 253 = .ok (.iload_n 3, 1) := by decide +kernel
theorem d37_254 : decode (mB 37) 254 = .ok (.iconst 0, 1) := by decide +kernel
theorem d37_255 : decode (mB 37) 255 = .ok (.iload_n 1, 1) := by decide +kernel
theorem d37_256 : decode (mB 37) 256 = .ok (.invokevirtual 78, 3) := by decide +kernel
theorem d37_259 : decode (mB 37) 259 = .ok (.ifCond .eq 7, 3) := by decide +kernel
theorem d37_262 : decode (mB 37) 262 = .ok (.iconst 1, 1) := by decide +kernel
theorem d37_263 : decode (mB 37) 263 = .ok (.goto 4, 3) := by decide +kernel
theorem d37_266 : decode (mB 37) 266 = .ok (.iconst 0, 1) := by decide +kernel
theorem d37_267 : decode (mB 37) 267 = .ok (.ireturn, 1) := by decide +kernel
theorem d37_268 : decode (mB 37) 268 = .ok (.aload_n 0, 1) := by decide +kernel
theorem d37_269 : decode (mB 37) 269 = .ok (.iload_n 3, 1) := by decide +kernel
theorem d37_270 : decode (mB 37) 270 = .ok (.iconst 3, 1) := by decide +kernel
theorem d37_271 : decode (mB 37) 271 = .ok (.bipush 8, 2) := by decide +kernel
theorem d37_273 : decode (mB 37) 273 = .ok (.invokevirtual 85, 3) := by decide +kernel
theorem d37_276 : decode (mB 37) 276 = .ok (.ifCond .eq 33, 3) := by decide +kernel
theorem d37_279 : decode (mB 37) 279 = .ok (.aload_n 0, 1) := by decide +kernel
theorem d37_280 : decode (mB 37) 280 = .ok (.bipush 10, 2) := by decide +kernel
theorem d37_282 : decode (mB 37) 282 = .ok (.invokevirtual 69, 3) := by decide +kernel
theorem d37_285 : decode (mB 37) 285 = .ok (.ifCond .eq 24, 3) := by decide +kernel
theorem d37_288 : decode (mB 37) 288 = .ok (.aload_n 0, 1) := by decide +kernel
theorem d37_289 : decode (mB 37) 289 = .ok (.iload_n 3, 1) := by decide +kernel
theorem d37_290 : decode (mB 37) 290 = .ok (.invokevirtual 66, 3) := by decide +kernel
theorem d37_293 : decode (mB 37) 293 = .ok (.ifCond .eq 16, 3) := by decide +kernel
theorem d37_296 : decode (mB 37) 296 = .ok (.aload_n 0, 1) := by decide +kernel
theorem d37_297 : decode (mB 37) 297 = .ok (.bipush 59, 2) := by decide +kernel
theorem d37_299 : decode (mB 37) 299 = .ok (.invokevirtual 69, 3) := by decide +kernel
theorem d37_302 : decode (mB 37) 302 = .ok (.ifCond .eq 7, 3) := by decide +kernel
theorem d37_305 : decode (mB 37) 305 = .ok (.iconst 1, 1) := by decide +kernel
theorem d37_306 : decode (mB 37) 306 = .ok (.goto 4, 3) := by decide +kernel
theorem d37_309 : decode (mB 37) 309 = .ok (.iconst 0, 1) := by decide +kernel
theorem d37_310 : decode (mB 37) 310 = .ok (.ireturn, 1) := by decide +kernel
theorem d37_311 : decode (mB 37) 311 = .ok (.aload_n 0, 1) := by decide +kernel
theorem d37_312 : decode (mB 37) 312 = .ok (.iload_n 3, 1) := by decide +kernel
theorem d37_313 : decode (mB 37) 313 = .ok (.invokevirtual 72, 3) := by decide +kernel
theorem d37_316 : decode (mB 37) 316 = .ok (.ifCond .eq 36, 3) := by decide +kernel
theorem d37_319 : decode (mB 37) 319 = .ok (.aload_n 0, 1) := by decide +kernel
theorem d37_320 : decode (mB 37) 320 = .ok (.bipush 12, 2) := by decide +kernel
theorem d37_322 : decode (mB 37) 322 = .ok (.invokevirtual 69, 3) := by decide +kernel
theorem d37_325 : decode (mB 37) 325 = .ok (.ifCond .eq 27, 3) := by decide +kernel
theorem d37_328 : decode (mB 37) 328 = .ok (.aload_n 0, 1) := by decide +kernel
theorem d37_329 : decode (mB 37) 329 = .ok (.iload_n 3, 1) := by decide +kernel
theorem d37_330 : decode (mB 37) 330 = .ok (.iconst 3, 1) := by decide +kernel
theorem d37_331 : decode (mB 37) 331 = .ok (.bipush 8, 2) := by decide +kernel
theorem d37_333 : decode (mB 37) 333 = .ok (.invokevirtual 85, 3) := by decide +kernel
theorem d37_336 : decode (mB 37) 336 = .ok (.ifCond .eq 16, 3) := by decide +kernel
theorem d37_339 : decode (mB 37) 339 = .ok (.aload_n 0, 1) := by decide +kernel
theorem d37_340 : decode (mB 37) 340 = .ok (.bipush 59, 2) := by decide +kernel
theorem d37_342 : decode (mB 37) 342 = .ok (.invokevirtual 69, 3) := by decide +kernel
theorem d37_345 : decode (mB 37) 345 = .ok (.ifCond .eq 7, 3) := by decide +kernel
theorem d37_348 : decode (mB 37) 348 = .ok (.iconst 1, 1) := by decide +kernel
theorem d37_349 : decode (mB 37) 349 = .ok (.goto 4, 3) := by decide +kernel
theorem d37_352 : decode (mB 37) 352 = .ok (.iconst 0, 1) := by decide +kernel
theorem d37_353 : decode (mB 37) 353 = .ok (.ireturn, 1) := by decide +kernel
theorem d37_354 : decode (mB 37) 354 = .ok (.aload_n 0, 1) := by decide +kernel
theorem d37_355 : decode (mB 37) 355 = .ok (.iload_n 3, 1) := by decide +kernel
theorem d37_356 : decode (mB 37) 356 = .ok (.invokevirtual 72, 3) := by decide +kernel
theorem d37_359 : decode (mB 37) 359 = .ok (.ifCond .eq 36, 3) := by decide +kernel
theorem d37_362 : decode (mB 37) 362 = .ok (.aload_n 0, 1) := by decide +kernel
theorem d37_363 : decode (mB 37) 363 = .ok (.bipush 10, 2) := by decide +kernel
theorem d37_365 : decode (mB 37) 365 = .ok (.invokevirtual 69, 3) := by decide +kernel
theorem d37_368 : decode (mB 37) 368 = .ok (.ifCond .eq 27, 3) := by decide +kernel
theorem d37_371 : decode (mB 37) 371 = .ok (.aload_n 0, 1) := by decide +kernel
theorem d37_372 : decode (mB 37) 372 = .ok (.iload_n 3, 1) := by decide +kernel
theorem d37_373 : decode (mB 37) 373 = .ok (.iconst 4, 1) := by decide +kernel
theorem d37_374 : decode (mB 37) 374 = .ok (.bipush 6, 2) := by decide +kernel
theorem d37_376 : decode (mB 37) 376 = .ok (.invokevirtual 85, 3) := by decide +kernel
theorem d37_379 : decode (mB 37) 379 = .ok (.ifCond .eq 16, 3) := by decide +kernel
theorem d37_382 : decode (mB 37) 382 = .ok (.aload_n 0, 1) := by decide +kernel
theorem d37_383 : decode (mB 37) 383 = .ok (.bipush 59, 2) := by decide +kernel
theorem d37_385 : decode (mB 37) 385 = .ok (.invokevirtual 69, 3) := by decide +kernel
theorem d37_388 : decode (mB 37) 388 = .ok (.ifCond .eq 7, 3) := by decide +kernel
theorem d37_391 : decode (mB 37) 391 = .ok (.iconst 1, 1) := by decide +kernel
theorem d37_392 : decode (mB 37) 392 = .ok (.goto 4, 3) := by decide +kernel
theorem d37_395 : decode (mB 37) 395 = .ok (.iconst 0, 1) := by decide +kernel
theorem d37_396 : decode (mB 37) 396 = .ok (.ireturn, 1) := by decide +kernel
theorem d37_397 : decode (mB 37) 397 = .ok (.aload_n 0, 1) := by decide +kernel
theorem d37_398 : decode (mB 37) 398 = .ok (.iload_n 3, 1) := by decide +kernel
theorem d37_399 : decode (mB 37) 399 = .ok (.iconst 0, 1) := by decide +kernel
theorem d37_400 : decode (mB 37) 400 = .ok (.iload_n 1, 1) := by decide +kernel
theorem d37_401 : decode (mB 37) 401 = .ok (.invokevirtual 78, 3) := by decide +kernel
theorem d37_404 : decode (mB 37) 404 = .ok (.ifCond .eq 34, 3) := by decide +kernel
theorem d37_407 : decode (mB 37) 407 = .ok (.aload_n 0, 1) := by decide +kernel
theorem d37_408 : decode (mB 37) 408 = .ok (.bipush 19, 2) := by decide +kernel
theorem d37_410 : decode (mB 37) 410 = .ok (.invokevirtual 69, 3) := by decide +kernel
theorem d37_413 : decode (mB 37) 413 = .ok (.ifCond .eq 25, 3) := by decide +kernel
theorem d37_416 : decode (mB 37) 416 = .ok (.aload_n 0, 1) := by decide +kernel
theorem d37_417 : decode (mB 37) 417 = .ok (.iload_n 3, 1) := by decide +kernel
theorem d37_418 : decode (mB 37) 418 = .ok (.invokevirtual 66, 3) := by decide +kernel
theorem d37_421 : decode (mB 37) 421 = .ok (.ifCond .eq 17, 3) := by decide +kernel
theorem d37_424 : decode (mB 37) 424 = .ok (.aload_n 0, 1) := by decide +kernel
theorem d37_425 : decode (mB 37) 425 = .ok (.iload_n 3, 1) := by decide +kernel
theorem d37_426 : decode (mB 37) 426 = .ok (.iconst 1, 1) := by decide +kernel
theorem d37_427 : decode (mB 37) 427 = .ok (.iload_n 1, 1) := by decide +kernel
theorem d37_428 : decode (mB 37) 428 = .ok (.invokevirtual 78, 3) := by decide +kernel
theorem d37_431 : decode (mB 37) 431 = .ok (.ifCond .eq 7, 3) := by decide +kernel
theorem d37_434 : decode (mB 37) 434 = .ok (.iconst 1, 1) := by decide +kernel
theorem d37_435 : decode (mB 37) 435 = .ok (.goto 4, 3) := by decide +kernel
theorem d37_438 : decode (mB 37) 438 = .ok (.iconst 0, 1) := by decide +kernel
theorem d37_439 : decode (mB 37) 439 = .ok (.ireturn, 1) := by decide +kernel
theorem d37_440 : decode (mB 37) 440 = .ok (.aload_n 0, 1) := by decide +kernel
theorem d37_441 : decode (mB 37) 441 = .ok (.iload_n 3, 1) := by decide +kernel
theorem d37_442 : decode (mB 37) 442 = .ok (.iconst 0, 1) := by decide +kernel
theorem d37_443 : decode (mB 37) 443 = .ok (.iload_n 1, 1) := by decide +kernel
theorem d37_444 : decode (mB 37) 444 = .ok (.invokevirtual 78, 3) := by decide +kernel
theorem d37_447 : decode (mB 37) 447 = .ok (.ifCond .eq 45, 3) := by decide +kernel
theorem d37_450 : decode (mB 37) 450 = .ok (.aload_n 0, 1) := by decide +kernel
theorem d37_451 : decode (mB 37) 451 = .ok (.bipush 21, 2) := by decide +kernel
theorem d37_453 : decode (mB 37) 453 = .ok (.invokevirtual 69, 3) := by decide +kernel
theorem d37_456 : decode (mB 37) 456 = .ok (.ifCond .eq 36, 3) := by decide +kernel
theorem d37_459 : decode (mB 37) 459 = .ok (.aload_n 0, 1) := by decide +kernel
theorem d37_460 : decode (mB 37) 460 = .ok (.iload_n 3, 1) := by decide +kernel
theorem d37_461 : decode (mB 37) 461 = .ok (.iconst 1, 1) := by decide +kernel
theorem d37_462 : decode (mB 37) 462 = .ok (.iload_n 1, 1) := by decide +kernel
theorem d37_463 : decode (mB 37) 463 = .ok (.invokevirtual 78, 3) := by decide +kernel
theorem d37_466 : decode (mB 37) 466 = .ok (.ifCond .eq 26, 3) := by decide +kernel
theorem d37_469 : decode (mB 37) 469 = .ok (.aload_n 0, 1) := by decide +kernel
theorem d37_470 : decode (mB 37) 470 = .ok (.bipush 22, 2) := by decide +kernel
theorem d37_472 : decode (mB 37) 472 = .ok (.invokevirtual 69, 3) := by decide +kernel
theorem d37_475 : decode (mB 37) 475 = .ok (.ifCond .eq 17, 3) := by decide +kernel
theorem d37_478 : decode (mB 37) 478 = .ok (.aload_n 0, 1) := by decide +kernel
theorem d37_479 : decode (mB 37) 479 = .ok (.iload_n 3, 1) := by decide +kernel
theorem d37_480 : decode (mB 37) 480 = .ok (.iconst 2, 1) := by decide +kernel
theorem d37_481 : decode (mB 37) 481 = .ok (.iload_n 1, 1) := by decide +kernel
theorem d37_482 : decode (mB 37) 482 = .ok (.invokevirtual 78, 3) := by decide +kernel
theorem d37_485 : decode (mB 37) 485 = .ok (.ifCond .eq 7, 3) := by decide +kernel
theorem d37_488 : decode (mB 37) 488 = .ok (.iconst 1, 1) := by decide +kernel
theorem d37_489 : decode (mB 37) 489 = .ok (.goto 4, 3) := by decide +kernel
theorem d37_492 : decode (mB 37) 492 = .ok (.iconst 0, 1) := by decide +kernel
theorem d37_493 : decode (mB 37) 493 = .ok (.ireturn, 1) := by decide +kernel
theorem d37_494 : decode (mB 37) 494 = .ok (.aload_n 0, 1) := by decide +kernel
theorem d37_495 : decode (mB 37) 495 = .ok (.iload_n 3, 1) := by decide +kernel
theorem d37_496 : decode (mB 37) 496 = .ok (.iconst 4, 1) := by decide +kernel
theorem d37_497 : decode (mB 37) 497 = .ok (.ldc 88, 2) := by decide +kernel
theorem d37_499 : decode (mB 37) 499 = .ok (.invokevirtual 85, 3) := by decide +kernel
theorem d37_502 : decode (mB 37) 502 = .ok (.ifCond .eq 26, 3) := by decide +kernel
theorem d37_505 : decode (mB 37) 505 = .ok (.aload_n 0, 1) := by decide +kernel
theorem d37_506 : decode (mB 37) 506 = .ok (.iload_n 3, 1) := by decide +kernel
theorem d37_507 : decode (mB 37) 507 = .ok (.iconst 0, 1) := by decide +kernel
theorem d37_508 : decode (mB 37) 508 = .ok (.iload_n 1, 1) := by decide +kernel
theorem d37_509 : decode (mB 37) 509 = .ok (.invokevirtual 78, 3) := by decide +kernel
theorem d37_512 : decode (mB 37) 512 = .ok (.ifCond .eq 16, 3) := by decide +kernel
theorem d37_515 : decode (mB 37) 515 = .ok (.aload_n 0, 1) := by decide +kernel
theorem d37_516 : decode (mB 37) 516 = .ok (.iload_n 3, 1) := by decide +kernel
theorem d37_517 : decode (mB 37) 517 = .ok (.iload_n 1, 1) := by decide +kernel
theorem d37_518 : decode (mB 37) 518 = .ok (.invokevirtual 81, 3) := by decide +kernel
theorem d37_521 : decode (mB 37) 521 = .ok (.ifCond .eq 7, 3) := by decide +kernel
theorem d37_524 : decode (mB 37) 524 = .ok (.iconst 1, 1) := by decide +kernel
theorem d37_525 : decode (mB 37) 525 = .ok (.goto 4, 3) := by decide +kernel
theorem d37_528 : decode (mB 37) 528 = .ok (.iconst 0, 1) := by decide +kernel
theorem d37_529 : decode (mB 37) 529 = .ok (.ireturn, 1) := by decide +kernel
theorem d37_530 : decode (mB 37) 530 = .ok (.aload_n 0, 1) := by decide +kernel
theorem d37_531 : decode (mB 37) 531 = .ok (.iload_n 3, 1) := by decide +kernel
theorem d37_532 : decode (mB 37) 532 = .ok (.iconst 0, 1) := by decide +kernel
theorem d37_533 : decode (mB 37) 533 = .ok (.iload_n 1, 1) := by decide +kernel
theorem d37_534 : decode (mB 37) 534 = .ok (.invokevirtual 78, 3) := by decide +kernel
theorem d37_537 : decode (mB 37) 537 = .ok (.ireturn, 1) := by decide +kernel
theorem d38_0 : decode (mB 38) 0 = .ok (.iload_n 0, 1) := by decide +kernel
theorem d38_1 : decode (mB 38) 1 = .ok (.tableswitch 105 2 23 #[103, 105, 105, 103, 103, 105, 103, 103, 105, 103, 105, 103, 103, 103, 103, 103, 103, 105, 103, 105, 105, 103], 103) := by decide +kernel
theorem d38_104 : decode (mB 38) 104 = .ok (.iconst 1, 1) := by decide +kernel
theorem d38_105 : decode (mB 38) 105 = .ok (.ireturn, 1) := by decide +kernel
theorem d38_106 : decode (mB 38) 106 = .ok (.iconst 0, 1) := by decide +kernel
theorem d38_107 : decode (mB 38) 107 = .ok (.ireturn, 1) := by decide +kernel
theorem d41_0 : decode (mB 41) 0 = .ok (.aload_n 0, 1) := by decide +kernel
theorem d41_1 : decode (mB 41) 1 = .ok (.getfield 12, 3) := by decide +kernel
theorem d41_4 : decode (mB 41) 4 = .ok (.getfield 46, 3) := by decide +kernel
theorem d41_7 : decode (mB 41) 7 = .ok (.aload_n 0, 1) := by decide +kernel
theorem d41_8 : decode (mB 41) 8 = .ok (.getfield 31, 3) := by decide +kernel
theorem d41_11 : decode (mB 41) 11 = .ok (.iaload, 1) := by decide +kernel
theorem d41_12 : decode (mB 41) 12 = .ok (.iload_n 1, 1) := by decide +kernel
theorem d41_13 : decode (mB 41) 13 = .ok (.if_icmp .eq 5, 3) := by decide +kernel
theorem d41_16 : decode (mB 41) 16 = .ok (.iconst 0, 1) := by decide +kernel
theorem d41_17 : decode (mB 41) 17 = .ok (.ireturn, 1) := by decide +kernel
theorem d41_18 : decode (mB 41) 18 = .ok (.aload_n 0, 1) := by decide +kernel
theorem d41_19 : decode (mB 41) 19 = .ok (.dup, 1) := by decide +kernel
theorem d41_20 : decode (mB 41) 20 = .ok (.getfield 31, 3) := by decide +kernel
theorem d41_23 : decode (mB 41) 23 = .ok (.iconst 1, 1) := by decide +kernel
theorem d41_24 : decode (mB 41) 24 = .ok (.iadd, 1) := by decide +kernel
theorem d41_25 : decode (mB 41) 25 = .ok (.putfield 31, 3) := by decide +kernel
theorem d41_28 : decode (mB 41) 28 = .ok (.iconst 1, 1) := by decide +kernel
theorem d41_29 : decode (mB 41) 29 = .ok (.ireturn, 1) := by decide +kernel
theorem d40_0 : decode (mB 40) 0 = .ok (.aload_n 0, 1) := by decide +kernel
theorem d40_1 : decode (mB 40) 1 = .ok (.getfield 27, 3) := by decide +kernel
theorem d40_4 : decode (mB 40) 4 = .ok (.getfield 89, 3) := by decide +kernel
theorem d40_7 : decode (mB 40) 7 = .ok (.iload_n 1, 1) := by decide +kernel
theorem d40_8 : decode (mB 40) 8 = .ok (.aload_n 0, 1) := by decide +kernel
theorem d40_9 : decode (mB 40) 9 = .ok (.getfield 12, 3) := by decide +kernel
theorem d40_12 : decode (mB 40) 12 = .ok (.getfield 92, 3) := by decide +kernel
theorem d40_15 : decode (mB 40) 15 = .ok (.aload_n 0, 1) := by decide +kernel
theorem d40_16 : decode (mB 40) 16 = .ok (.getfield 31, 3) := by decide +kernel
theorem d40_19 : decode (mB 40) 19 = .ok (.iaload, 1) := by decide +kernel
theorem d40_20 : decode (mB 40) 20 = .ok (.iastore, 1) := by decide +kernel
theorem d40_21 : decode (mB 40) 21 = .ok (.aload_n 0, 1) := by decide +kernel
theorem d40_22 : decode (mB 40) 22 = .ok (.iconst 2, 1) := by decide +kernel
theorem d40_23 : decode (mB 40) 23 = .ok (.invokevirtual 69, 3) := by decide +kernel
theorem d40_26 : decode (mB 40) 26 = .ok (.ireturn, 1) := by decide +kernel
theorem d52_0 : decode (mB 52) 0 = .ok (.aload_n 0, 1) := by decide +kernel
theorem d52_1 : decode (mB 52) 1 = .ok (.getfield 27, 3) := by decide +kernel
theorem d52_4 : decode (mB 52) 4 = .ok (.getfield 95, 3) := by decide +kernel
theorem d52_7 : decode (mB 52) 7 = .ok (.iload_n 1, 1) := by decide +kernel
theorem d52_8 : decode (mB 52) 8 = .ok (.aload_n 0, 1) := by decide +kernel
theorem d52_9 : decode (mB 52) 9 = .ok (.getfield 12, 3) := by decide +kernel
theorem d52_12 : decode (mB 52) 12 = .ok (.getfield 92, 3) := by decide +kernel
theorem d52_15 : decode (mB 52) 15 = .ok (.aload_n 0, 1) := by decide +kernel
theorem d52_16 : decode (mB 52) 16 = .ok (.getfield 31, 3) := by decide +kernel
theorem d52_19 : decode (mB 52) 19 = .ok (.iaload, 1) := by decide +kernel
theorem d52_20 : decode (mB 52) 20 = .ok (.iastore, 1) := by decide +kernel
theorem d52_21 : decode (mB 52) 21 = .ok (.aload_n 0, 1) := by decide +kernel
theorem d52_22 : decode (mB 52) 22 = .ok (.getfield 12, 3) := by decide +kernel
theorem d52_25 : decode (mB 52) 25 = .ok (.getfield 92, 3) := by decide +kernel
theorem d52_28 : decode (mB 52) 28 = .ok (.aload_n 0, 1) := by decide +kernel
theorem d52_29 : decode (mB 52) 29 = .ok (.getfield 31, 3) := by decide +kernel
theorem d52_32 : decode (mB 52) 32 = .ok (.iaload, 1) := by decide +kernel
theorem d52_33 : decode (mB 52) 33 = .ok (.iload_n 3, 1) := by decide +kernel
theorem d52_34 : decode (mB 52) 34 = .ok (.if_icmp .ge 15, 3) := by decide +kernel
theorem d52_37 : decode (mB 52) 37 = .ok (.aload_n 0, 1) := by decide +kernel
theorem d52_38 : decode (mB 52) 38 = .ok (.iload_n 2, 1) := by decide +kernel
theorem d52_39 : decode (mB 52) 39 = .ok (.invokevirtual 69, 3) := by decide +kernel
theorem d52_42 : decode (mB 52) 42 = .ok (.ifCond .eq 7, 3) := by decide +kernel
theorem d52_45 : decode (mB 52) 45 = .ok (.iconst 1, 1) := by decide +kernel
theorem d52_46 : decode (mB 52) 46 = .ok (.goto 4, 3) := by decide +kernel
theorem d52_49 : decode (mB 52) 49 = .ok (.iconst 0, 1) := by decide +kernel
theorem d52_50 : decode (mB 52) 50 = .ok (.ireturn, 1) := by decide +kernel
theorem d49_0 : decode (mB 49) 0 = .ok (.iload_n 3, 1) := by decide +kernel
theorem d49_1 : decode (mB 49) 1 = .ok (.bipush 8, 2) := by decide +kernel
theorem d49_3 : decode (mB 49) 3 = .ok (.if_icmp .ge 12, 3) := by decide +kernel
theorem d49_6 : decode (mB 49) 6 = .ok (.aload_n 0, 1) := by decide +kernel
theorem d49_7 : decode (mB 49) 7 = .ok (.bipush 123, 2) := by decide +kernel
theorem d49_9 : decode (mB 49) 9 = .ok (.invokevirtual 69, 3) := by decide +kernel
theorem d49_12 : decode (mB 49) 12 = .ok (.ifCond .ne 5, 3) := by decide +kernel
theorem d49_15 : decode (mB 49) 15 = .ok (.iconst 0, 1) := by decide +kernel
theorem d49_16 : decode (mB 49) 16 = .ok (.ireturn, 1) := by decide +kernel
theorem d49_17 : decode (mB 49) 17 = .ok (.aload_n 0, 1) := by decide +kernel
theorem d49_18 : decode (mB 49) 18 = .ok (.getfield 27, 3) := by decide +kernel
theorem d49_21 : decode (mB 49) 21 = .ok (.aload_n 0, 1) := by decide +kernel
theorem d49_22 : decode (mB 49) 22 = .ok (.getfield 27, 3) := by decide +kernel
theorem d49_25 : decode (mB 49) 25 = .ok (.getfield 98, 3) := by decide +kernel
theorem d49_28 : decode (mB 49) 28 = .ok (.iload_n 3, 1) := by decide +kernel
theorem d49_29 : decode (mB 49) 29 = .ok (.iconst 1, 1) := by decide +kernel
theorem d49_30 : decode (mB 49) 30 = .ok (.iadd, 1) := by decide +kernel
theorem d49_31 : decode (mB 49) 31 = .ok (.invokestatic 101, 3) := by decide +kernel
theorem d49_34 : decode (mB 49) 34 = .ok (.putfield 98, 3) := by decide +kernel
theorem d49_37 : decode (mB 49) 37 = .ok (.aload_n 0, 1) := by decide +kernel
theorem d49_38 : decode (mB 49) 38 = .ok (.iconst 3, 1) := by decide +kernel
theorem d49_39 : decode (mB 49) 39 = .ok (.iload_n 1, 1) := by decide +kernel
theorem d49_40 : decode (mB 49) 40 = .ok (.imul, 1) := by decide +kernel
theorem d49_41 : decode (mB 49) 41 = .ok (.iload_n 2, 1) := by decide +kernel
theorem d49_42 : decode (mB 49) 42 = .ok (.iadd, 1) := by decide +kernel
theorem d49_43 : decode (mB 49) 43 = .ok (.iload_n 3, 1) := by decide +kernel
theorem d49_44 : decode (mB 49) 44 = .ok (.iconst 1, 1) := by decide +kernel
theorem d49_45 : decode (mB 49) 45 = .ok (.iadd, 1) := by decide +kernel
theorem d49_46 : decode (mB 49) 46 = .ok (.bipush 125, 2) := by decide +kernel
theorem d49_48 : decode (mB 49) 48 = .ok (.invokevirtual 35, 3) := by decide +kernel
theorem d49_51 : decode (mB 49) 51 = .ok (.ifCond .eq 16, 3) := by decide +kernel
theorem d49_54 : decode (mB 49) 54 = .ok (.aload_n 0, 1) := by decide +kernel
theorem d49_55 : decode (mB 49) 55 = .ok (.bipush 125, 2) := by decide +kernel
theorem d49_57 : decode (mB 49) 57 = .ok (.invokevirtual 69, 3) := by decide +kernel
theorem d49_60 : decode (mB 49) 60 = .ok (.ifCond .eq 7, 3) := by decide +kernel
theorem d49_63 : decode (mB 49) 63 = .ok (.iconst 1, 1) := by decide +kernel
theorem d49_64 : decode (mB 49) 64 = .ok (.goto 4, 3) := by decide +kernel
theorem d49_67 : decode (mB 49) 67 = .ok (.iconst 0, 1) := by decide +kernel
theorem d49_68 : decode (mB 49) 68 = .ok (.ireturn, 1) := by decide +kernel
theorem d51_0 : decode (mB 51) 0 = .ok (.aload_n 0, 1) := by decide +kernel
theorem d51_1 : decode (mB 51) 1 = .ok (.bipush 7, 2) := by decide +kernel
theorem d51_3 : decode (mB 51) 3 = .ok (.invokevirtual 69, 3) := by decide +kernel
theorem d51_6 : decode (mB 51) 6 = .ok (.ifCond .eq 13, 3) := by decide +kernel
theorem d51_9 : decode (mB 51) 9 = .ok (.aload_n 0, 1) := by decide +kernel
theorem d51_10 : decode (mB 51) 10 = .ok (.iload_n 1, 1) := by decide +kernel
theorem d51_11 : decode (mB 51) 11 = .ok (.iconst 1, 1) := by decide +kernel
theorem d51_12 : decode (mB 51) 12 = .ok (.iload_n 2, 1) := by decide +kernel
theorem d51_13 : decode (mB 51) 13 = .ok (.invokevirtual 78, 3) := by decide +kernel
theorem d51_16 : decode (mB 51) 16 = .ok (.ifCond .eq 7, 3) := by decide +kernel
theorem d51_19 : decode (mB 51) 19 = .ok (.iconst 1, 1) := by decide +kernel
theorem d51_20 : decode (mB 51) 20 = .ok (.goto 4, 3) := by decide +kernel
theorem d51_23 : decode (mB 51) 23 = .ok (.iconst 0, 1) := by decide +kernel
theorem d51_24 : decode (mB 51) 24 = .ok (.ireturn, 1) := by decide +kernel
theorem d48_0 : decode (mB 48) 0 = .ok (.aload_n 0, 1) := by decide +kernel
theorem d48_1 : decode (mB 48) 1 = .ok (.bipush 40, 2) := by decide +kernel
theorem d48_3 : decode (mB 48) 3 = .ok (.invokevirtual 69, 3) := by decide +kernel
theorem d48_6 : decode (mB 48) 6 = .ok (.ifCond .eq 24, 3) := by decide +kernel
theorem d48_9 : decode (mB 48) 9 = .ok (.aload_n 0, 1) := by decide +kernel
theorem d48_10 : decode (mB 48) 10 = .ok (.iload_n 1, 1) := by decide +kernel
theorem d48_11 : decode (mB 48) 11 = .ok (.invokevirtual 72, 3) := by decide +kernel
theorem d48_14 : decode (mB 48) 14 = .ok (.ifCond .eq 16, 3) := by decide +kernel
theorem d48_17 : decode (mB 48) 17 = .ok (.aload_n 0, 1) := by decide +kernel
theorem d48_18 : decode (mB 48) 18 = .ok (.bipush 41, 2) := by decide +kernel
theorem d48_20 : decode (mB 48) 20 = .ok (.invokevirtual 69, 3) := by decide +kernel
theorem d48_23 : decode (mB 48) 23 = .ok (.ifCond .eq 7, 3) := by decide +kernel
theorem d48_26 : decode (mB 48) 26 = .ok (.iconst 1, 1) := by decide +kernel
theorem d48_27 : decode (mB 48) 27 = .ok (.goto 4, 3) := by decide +kernel
theorem d48_30 : decode (mB 48) 30 = .ok (.iconst 0, 1) := by decide +kernel
theorem d48_31 : decode (mB 48) 31 = .ok (.ireturn, 1) := by decide +kernel
theorem d42_0 : decode (mB 42) 0 = .ok (.aload_n 0, 1) := by decide +kernel
theorem d42_1 : decode (mB 42) 1 = .ok (.getfield 27, 3) := by decide +kernel
theorem d42_4 : decode (mB 42) 4 = .ok (.getfield 107, 3) := by decide +kernel
theorem d42_7 : decode (mB 42) 7 = .ok (.iload_n 1, 1) := by decide +kernel
theorem d42_8 : decode (mB 42) 8 = .ok (.aload_n 0, 1) := by decide +kernel
theorem d42_9 : decode (mB 42) 9 = .ok (.getfield 27, 3) := by decide +kernel
theorem d42_12 : decode (mB 42) 12 = .ok (.getfield 110, 3) := by decide +kernel
theorem d42_15 : decode (mB 42) 15 = .ok (.iastore, 1) := by decide +kernel
theorem d42_16 : decode (mB 42) 16 = .ok (.aload_n 0, 1) := by decide +kernel
theorem d42_17 : decode (mB 42) 17 = .ok (.iconst 0, 1) := by decide +kernel
theorem d42_18 : decode (mB 42) 18 = .ok (.invokevirtual 113, 3) := by decide +kernel
theorem d42_21 : decode (mB 42) 21 = .ok (.istore_n 2, 1) := by decide +kernel
theorem d42_22 : decode (mB 42) 22 = .ok (.aload_n 0, 1) := by decide +kernel
theorem d42_23 : decode (mB 42) 23 = .ok (.getfield 27, 3) := by decide +kernel
theorem d42_26 : decode (mB 42) 26 = .ok (.getfield 116, 3) := by decide +kernel
theorem d42_29 : decode (mB 42) 29 = .ok (.iload_n 1, 1) := by decide +kernel
theorem d42_30 : decode (mB 42) 30 = .ok (.aload_n 0, 1) := by decide +kernel
theorem d42_31 : decode (mB 42) 31 = .ok (.getfield 27, 3) := by decide +kernel
theorem d42_34 : decode (mB 42) 34 = .ok (.getfield 110, 3) := by decide +kernel
theorem d42_37 : decode (mB 42) 37 = .ok (.iastore, 1) := by decide +kernel
theorem d42_38 : decode (mB 42) 38 = .ok (.iload_n 2, 1) := by decide +kernel
theorem d42_39 : decode (mB 42) 39 = .ok (.ireturn, 1) := by decide +kernel
theorem d43_0 : decode (mB 43) 0 = .ok (.aload_n 0, 1) := by decide +kernel
theorem d43_1 : decode (mB 43) 1 = .ok (.iload_n 1, 1) := by decide +kernel
theorem d43_2 : decode (mB 43) 2 = .ok (.invokevirtual 119, 3) := by decide +kernel
theorem d43_5 : decode (mB 43) 5 = .ok (.ifCond .ne 5, 3) := by decide +kernel
theorem d43_8 : decode (mB 43) 8 = .ok (.iconst 0, 1) := by decide +kernel
theorem d43_9 : decode (mB 43) 9 = .ok (.ireturn, 1) := by decide +kernel
theorem d43_10 : decode (mB 43) 10 = .ok (.aload_n 0, 1) := by decide +kernel
theorem d43_11 : decode (mB 43) 11 = .ok (.getfield 12, 3) := by decide +kernel
theorem d43_14 : decode (mB 43) 14 = .ok (.getfield 46, 3) := by decide +kernel
theorem d43_17 : decode (mB 43) 17 = .ok (.aload_n 0, 1) := by decide +kernel
theorem d43_18 : decode (mB 43) 18 = .ok (.getfield 31, 3) := by decide +kernel
theorem d43_21 : decode (mB 43) 21 = .ok (.iaload, 1) := by decide +kernel
theorem d43_22 : decode (mB 43) 22 = .ok (.istore_n 2, 1) := by decide +kernel
theorem d43_23 : decode (mB 43) 23 = .ok (.iload_n 2, 1) := by decide +kernel
theorem d43_24 : decode (mB 43) 24 = .ok (.bipush 60, 2) := by decide +kernel
theorem d43_26 : decode (mB 43) 26 = .ok (.if_icmp .eq 17, 3) := by decide +kernel
theorem d43_29 : decode (mB 43) 29 = .ok (.iload_n 2, 1) := by decide +kernel
theorem d43_30 : decode (mB 43) 30 = .ok (.bipush 61, 2) := by decide +kernel
theorem d43_32 : decode (mB 43) 32 = .ok (.if_icmp .eq 11, 3) := by decide +kernel
theorem d43_35 : decode (mB 43) 35 = .ok (.iload_n 2, 1) := by decide +kernel
theorem d43_36 : decode (mB 43) 36 = .ok (.bipush 35, 2) := by decide +kernel
theorem d43_38 : decode (mB 43) 38 = .ok (.if_icmp .eq 5, 3) := by decide +kernel
theorem d43_41 : decode (mB 43) 41 = .ok (.iconst 1, 1) := by decide +kernel
theorem d43_42 : decode (mB 43) 42 = .ok (.ireturn, 1) := by decide +kernel
theorem d43_43 : decode (mB 43) 43 = .ok (.aload_n 0, 1) := by decide +kernel
theorem d43_44 : decode (mB 43) 44 = .ok (.dup, 1) := by decide +kernel
theorem d43_45 : decode (mB 43) 45 = .ok (.getfield 31, 3) := by decide +kernel
theorem d43_48 : decode (mB 43) 48 = .ok (.iconst 1, 1) := by decide +kernel
theorem d43_49 : decode (mB 43) 49 = .ok (.iadd, 1) := by decide +kernel
theorem d43_50 : decode (mB 43) 50 = .ok (.putfield 31, 3) := by decide +kernel
theorem d43_53 : decode (mB 43) 53 = .ok (.aload_n 0, 1) := by decide +kernel
theorem d43_54 : decode (mB 43) 54 = .ok (.iload_n 1, 1) := by decide +kernel
theorem d43_55 : decode (mB 43) 55 = .ok (.invokevirtual 119, 3) := by decide +kernel
theorem d43_58 : decode (mB 43) 58 = .ok (.ifCond .eq 19, 3) := by decide +kernel
theorem d43_61 : decode (mB 43) 61 = .ok (.aload_n 0, 1) := by decide +kernel
theorem d43_62 : decode (mB 43) 62 = .ok (.getfield 27, 3) := by decide +kernel
theorem d43_65 : decode (mB 43) 65 = .ok (.iload_n 2, 1) := by decide +kernel
theorem d43_66 : decode (mB 43) 66 = .ok (.iconst 0, 1) := by decide +kernel
theorem d43_67 : decode (mB 43) 67 = .ok (.invokevirtual 122, 3) := by decide +kernel
theorem d43_70 : decode (mB 43) 70 = .ok (.ifCond .eq 7, 3) := by decide +kernel
theorem d43_73 : decode (mB 43) 73 = .ok (.iconst 1, 1) := by decide +kernel
theorem d43_74 : decode (mB 43) 74 = .ok (.goto 4, 3) := by decide +kernel
theorem d43_77 : decode (mB 43) 77 = .ok (.iconst 0, 1) := by decide +kernel
theorem d43_78 : decode (mB 43) 78 = .ok (.ireturn, 1) := by decide +kernel
theorem d44_0 : decode (mB 44) 0 = .ok (.aload_n 0, 1) := by decide +kernel
theorem d44_1 : decode (mB 44) 1 = .ok (.iload_n 1, 1) := by decide +kernel
theorem d44_2 : decode (mB 44) 2 = .ok (.invokevirtual 125, 3) := by decide +kernel
theorem d44_5 : decode (mB 44) 5 = .ok (.istore_n 2, 1) := by decide +kernel
theorem d44_6 : decode (mB 44) 6 = .ok (.iconst 0, 1) := by decide +kernel
theorem d44_7 : decode (mB 44) 7 = .ok (.istore_n 3, 1) := by decide +kernel
theorem d44_8 : decode (mB 44) 8 = .ok (.iload_n 3, 1) := by decide +kernel
theorem d44_9 : decode (mB 44) 9 = .ok (.bipush 60, 2) := by decide +kernel
theorem d44_11 : decode (mB 44) 11 = .ok (.if_icmp .ge 80, 3) := by decide +kernel
theorem d44_14 : decode (mB 44) 14 = .ok (.iload_n 2, 1) := by decide +kernel
theorem d44_15 : decode (mB 44) 15 = .ok (.ifCond .eq 76, 3) := by decide +kernel
theorem d44_18 : decode (mB 44) 18 = .ok (.aload_n 0, 1) := by decide +kernel
theorem d44_19 : decode (mB 44) 19 = .ok (.getfield 12, 3) := by decide +kernel
theorem d44_22 : decode (mB 44) 22 = .ok (.getfield 46, 3) := by decide +kernel
theorem d44_25 : decode (mB 44) 25 = .ok (.aload_n 0, 1) := by decide +kernel
theorem d44_26 : decode (mB 44) 26 = .ok (.getfield 31, 3) := by decide +kernel
theorem d44_29 : decode (mB 44) 29 = .ok (.iaload, 1) := by decide +kernel
theorem d44_30 : decode (mB 44) 30 = .ok (.istore 4, 2) := by decide +kernel
theorem d44_32 : decode (mB 44) 32 = .ok (.iload 4, 2) := by decide +kernel
theorem d44_34 : decode (mB 44) 34 = .ok (.bipush 43, 2) := by decide +kernel
theorem d44_36 : decode (mB 44) 36 = .ok (.if_icmp .eq 12, 3) := by decide +kernel
theorem d44_39 : decode (mB 44) 39 = .ok (.iload 4, 2) := by decide +kernel
theorem d44_41 : decode (mB 44) 41 = .ok (.bipush 45, 2) := by decide +kernel
theorem d44_43 : decode (mB 44) 43 = .ok (.if_icmp .eq 5, 3) := by decide +kernel
theorem d44_46 : decode (mB 44) 46 = .ok (.iconst 1, 1) := by decide +kernel
theorem d44_47 : decode (mB 44) 47 = .ok (.ireturn, 1) := by decide +kernel
theorem d44_48 : decode (mB 44) 48 = .ok (.aload_n 0, 1) := by decide +kernel
theorem d44_49 : decode (mB 44) 49 = .ok (.dup, 1) := by decide +kernel
theorem d44_50 : decode (mB 44) 50 = .ok (.getfield 31, 3) := by decide +kernel
theorem d44_53 : decode (mB 44) 53 = .ok (.iconst 1, 1) := by decide +kernel
theorem d44_54 : decode (mB 44) 54 = .ok (.iadd, 1) := by decide +kernel
theorem d44_55 : decode (mB 44) 55 = .ok (.putfield 31, 3) := by decide +kernel
theorem d44_58 : decode (mB 44) 58 = .ok (.aload_n 0, 1) := by decide +kernel
theorem d44_59 : decode (mB 44) 59 = .ok (.iload_n 1, 1) := by decide +kernel
theorem d44_60 : decode (mB 44) 60 = .ok (.invokevirtual 125, 3) := by decide +kernel
theorem d44_63 : decode (mB 44) 63 = .ok (.ifCond .eq 20, 3) := by decide +kernel
theorem d44_66 : decode (mB 44) 66 = .ok (.aload_n 0, 1) := by decide +kernel
theorem d44_67 : decode (mB 44) 67 = .ok (.getfield 27, 3) := by decide +kernel
theorem d44_70 : decode (mB 44) 70 = .ok (.iload 4, 2) := by decide +kernel
theorem d44_72 : decode (mB 44) 72 = .ok (.iconst 0, 1) := by decide +kernel
theorem d44_73 : decode (mB 44) 73 = .ok (.invokevirtual 122, 3) := by decide +kernel
theorem d44_76 : decode (mB 44) 76 = .ok (.ifCond .eq 7, 3) := by decide +kernel
theorem d44_79 : decode (mB 44) 79 = .ok (.iconst 1, 1) := by decide +kernel
theorem d44_80 : decode (mB 44) 80 = .ok (.goto 4, 3) := by decide +kernel
theorem d44_83 : decode (mB 44) 83 = .ok (.iconst 0, 1) := by decide +kernel
theorem d44_84 : decode (mB 44) 84 = .ok (.istore_n 2, 1) := by decide +kernel
theorem d44_85 : decode (mB 44) 85 = .ok (.iinc 3 1, 3) := by decide +kernel
theorem d44_88 : decode (mB 44) 88 = .ok (.goto (-80), 3) := by decide +kernel
theorem d44_91 : decode (mB 44) 91 = .ok (.iload_n 2, 1) := by decide +kernel
theorem d44_92 : decode (mB 44) 92 = .ok (.ireturn, 1) := by decide +kernel
theorem d45_0 : decode (mB 45) 0 = .ok (.aload_n 0, 1) := by decide +kernel
theorem d45_1 : decode (mB 45) 1 = .ok (.iload_n 1, 1) := by decide +kernel
theorem d45_2 : decode (mB 45) 2 = .ok (.invokevirtual 128, 3) := by decide +kernel
theorem d45_5 : decode (mB 45) 5 = .ok (.istore_n 2, 1) := by decide +kernel
theorem d45_6 : decode (mB 45) 6 = .ok (.iconst 0, 1) := by decide +kernel
theorem d45_7 : decode (mB 45) 7 = .ok (.istore_n 3, 1) := by decide +kernel
theorem d45_8 : decode (mB 45) 8 = .ok (.iload_n 3, 1) := by decide +kernel
theorem d45_9 : decode (mB 45) 9 = .ok (.bipush 60, 2) := by decide +kernel
theorem d45_11 : decode (mB 45) 11 = .ok (.if_icmp .ge 51, 3) := by decide +kernel
theorem d45_14 : decode (mB 45) 14 = .ok (.iload_n 2, 1) := by decide +kernel
theorem d45_15 : decode (mB 45) 15 = .ok (.ifCond .eq 47, 3) := by decide +kernel
theorem d45_18 : decode (mB 45) 18 = .ok (.aload_n 0, 1) := by decide +kernel
theorem d45_19 : decode (mB 45) 19 = .ok (.bipush 42, 2) := by decide +kernel
theorem d45_21 : decode (mB 45) 21 = .ok (.invokevirtual 69, 3) := by decide +kernel
theorem d45_24 : decode (mB 45) 24 = .ok (.ifCond .ne 5, 3) := by decide +kernel
theorem d45_27 : decode (mB 45) 27 = .ok (.iconst 1, 1) := by decide +kernel
theorem d45_28 : decode (mB 45) 28 = .ok (.ireturn, 1) := by decide +kernel
theorem d45_29 : decode (mB 45) 29 = .ok (.aload_n 0, 1) := by decide +kernel
theorem d45_30 : decode (mB 45) 30 = .ok (.iload_n 1, 1) := by decide +kernel
theorem d45_31 : decode (mB 45) 31 = .ok (.invokevirtual 128, 3) := by decide +kernel
theorem d45_34 : decode (mB 45) 34 = .ok (.ifCond .eq 20, 3) := by decide +kernel
theorem d45_37 : decode (mB 45) 37 = .ok (.aload_n 0, 1) := by decide +kernel
theorem d45_38 : decode (mB 45) 38 = .ok (.getfield 27, 3) := by decide +kernel
theorem d45_41 : decode (mB 45) 41 = .ok (.bipush 42, 2) := by decide +kernel
theorem d45_43 : decode (mB 45) 43 = .ok (.iconst 0, 1) := by decide +kernel
theorem d45_44 : decode (mB 45) 44 = .ok (.invokevirtual 122, 3) := by decide +kernel
theorem d45_47 : decode (mB 45) 47 = .ok (.ifCond .eq 7, 3) := by decide +kernel
theorem d45_50 : decode (mB 45) 50 = .ok (.iconst 1, 1) := by decide +kernel
theorem d45_51 : decode (mB 45) 51 = .ok (.goto 4, 3) := by decide +kernel
theorem d45_54 : decode (mB 45) 54 = .ok (.iconst 0, 1) := by decide +kernel
theorem d45_55 : decode (mB 45) 55 = .ok (.istore_n 2, 1) := by decide +kernel
theorem d45_56 : decode (mB 45) 56 = .ok (.iinc 3 1, 3) := by decide +kernel
theorem d45_59 : decode (mB 45) 59 = .ok (.goto (-51), 3) := by decide +kernel
theorem d45_62 : decode (mB 45) 62 = .ok (.iload_n 2, 1) := by decide +kernel
theorem d45_63 : decode (mB 45) 63 = .ok (.ireturn, 1) := by decide +kernel
theorem d46_0 : decode (mB 46) 0 = .ok (.aload_n 0, 1) := by decide +kernel
theorem d46_1 : decode (mB 46) 1 = .ok (.getfield 12, 3) := by decide +kernel
theorem d46_4 : decode (mB 46) 4 = .ok (.getfield 46, 3) := by decide +kernel
theorem d46_7 : decode (mB 46) 7 = .ok (.aload_n 0, 1) := by decide +kernel
theorem d46_8 : decode (mB 46) 8 = .ok (.getfield 31, 3) := by decide +kernel
theorem d46_11 : decode (mB 46) 11 = .ok (.iaload, 1) := by decide +kernel
theorem d46_12 : decode (mB 46) 12 = .ok (.istore_n 2, 1) := by decide +kernel
theorem d46_13 : decode (mB 46) 13 = .ok (.aload_n 0, 1) := by decide +kernel
theorem d46_14 : decode (mB 46) 14 = .ok (.getfield 27, 3) := by decide +kernel
theorem d46_17 : decode (mB 46) 17 = .ok (.getfield 131, 3) := by decide +kernel
theorem d46_20 : decode (mB 46) 20 = .ok (.bipush 60, 2) := by decide +kernel
theorem d46_22 : decode (mB 46) 22 = .ok (.if_icmp .lt 5, 3) := by decide +kernel
theorem d46_25 : decode (mB 46) 25 = .ok (.iconst 0, 1) := by decide +kernel
theorem d46_26 : decode (mB 46) 26 = .ok (.ireturn, 1) := by decide +kernel
theorem d46_27 : decode (mB 46) 27 = .ok (.iload_n 2, 1) := by decide +kernel
theorem d46_28 : decode (mB 46) 28 = .ok (.iconst 4, 1) := by decide +kernel
theorem d46_29 : decode (mB 46) 29 = .ok (.if_icmp .eq 8, 3) := by decide +kernel
theorem d46_32 : decode (mB 46) 32 = .ok (.iload_n 2, 1) := by decide +kernel
theorem d46_33 : decode (mB 46) 33 = .ok (.iconst 2, 1) := by decide +kernel
theorem d46_34 : decode (mB 46) 34 = .ok (.if_icmp .ne 49, 3) := by decide +kernel
theorem d46_37 : decode (mB 46) 37 = .ok (.aload_n 0, 1) := by decide +kernel
theorem d46_38 : decode (mB 46) 38 = .ok (.getfield 27, 3) := by decide +kernel
theorem d46_41 : decode (mB 46) 41 = .ok (.dup, 1) := by decide +kernel
theorem d46_42 : decode (mB 46) 42 = .ok (.getfield 131, 3) := by decide +kernel
theorem d46_45 : decode (mB 46) 45 = .ok (.iconst 1, 1) := by decide +kernel
theorem d46_46 : decode (mB 46) 46 = .ok (.iadd, 1) := by decide +kernel
theorem d46_47 : decode (mB 46) 47 = .ok (.putfield 131, 3) := by decide +kernel
theorem d46_50 : decode (mB 46) 50 = .ok (.aload_n 0, 1) := by decide +kernel
theorem d46_51 : decode (mB 46) 51 = .ok (.dup, 1) := by decide +kernel
theorem d46_52 : decode (mB 46) 52 = .ok (.getfield 31, 3) := by decide +kernel
theorem d46_55 : decode (mB 46) 55 = .ok (.iconst 1, 1) := by decide +kernel
theorem d46_56 : decode (mB 46) 56 = .ok (.iadd, 1) := by decide +kernel
theorem d46_57 : decode (mB 46) 57 = .ok (.putfield 31, 3) := by decide +kernel
theorem d46_60 : decode (mB 46) 60 = .ok (.aload_n 0, 1) := by decide +kernel
theorem d46_61 : decode (mB 46) 61 = .ok (.getfield 27, 3) := by decide +kernel
theorem d46_64 : decode (mB 46) 64 = .ok (.iload_n 2, 1) := by decide +kernel
theorem d46_65 : decode (mB 46) 65 = .ok (.aload_n 0, 1) := by decide +kernel
theorem d46_66 : decode (mB 46) 66 = .ok (.getfield 12, 3) := by decide +kernel
theorem d46_69 : decode (mB 46) 69 = .ok (.getfield 92, 3) := by decide +kernel
theorem d46_72 : decode (mB 46) 72 = .ok (.aload_n 0, 1) := by decide +kernel
theorem d46_73 : decode (mB 46) 73 = .ok (.getfield 31, 3) := by decide +kernel
theorem d46_76 : decode (mB 46) 76 = .ok (.iconst 1, 1) := by decide +kernel
theorem d46_77 : decode (mB 46) 77 = .ok (.isub, 1) := by decide +kernel
theorem d46_78 : decode (mB 46) 78 = .ok (.iaload, 1) := by decide +kernel
theorem d46_79 : decode (mB 46) 79 = .ok (.invokevirtual 122, 3) := by decide +kernel
theorem d46_82 : decode (mB 46) 82 = .ok (.ireturn, 1) := by decide +kernel
theorem d46_83 : decode (mB 46) 83 = .ok (.iload_n 2, 1) := by decide +kernel
theorem d46_84 : decode (mB 46) 84 = .ok (.bipush 45, 2) := by decide +kernel
theorem d46_86 : decode (mB 46) 86 = .ok (.if_icmp .eq 9, 3) := by decide +kernel
theorem d46_89 : decode (mB 46) 89 = .ok (.iload_n 2, 1) := by decide +kernel
theorem d46_90 : decode (mB 46) 90 = .ok (.bipush 40, 2) := by decide +kernel
theorem d46_92 : decode (mB 46) 92 = .ok (.if_icmp .ne 9, 3) := by decide +kernel
theorem d46_95 : decode (mB 46) 95 = .ok (.iload_n 1, 1) := by decide +kernel
theorem d46_96 : decode (mB 46) 96 = .ok (.bipush 8, 2) := by decide +kernel
theorem d46_98 : decode (mB 46) 98 = .ok (.if_icmp .lt 5, 3) := by decide +kernel
theorem d46_101 : decode (mB 46) 101 = .ok (.iconst 0, 1) := by decide +kernel
theorem d46_102 : decode (mB 46) 102 = .ok (.ireturn, 1) := by decide +kernel
theorem d46_103 : decode (mB 46) 103 = .ok (.aload_n 0, 1) := by decide +kernel
theorem d46_104 : decode (mB 46) 104 = .ok (.getfield 27, 3) := by decide +kernel
theorem d46_107 : decode (mB 46) 107 = .ok (.dup, 1) := by decide +kernel
theorem d46_108 : decode (mB 46) 108 = .ok (.getfield 131, 3) := by decide +kernel
theorem d46_111 : decode (mB 46) 111 = .ok (.iconst 1, 1) := by decide +kernel
theorem d46_112 : decode (mB 46) 112 = .ok (.iadd, 1) := by decide +kernel
theorem d46_113 : decode (mB 46) 113 = .ok (.putfield 131, 3) := by decide +kernel
theorem d46_116 : decode (mB 46) 116 = .ok (.aload_n 0, 1) := by decide +kernel
theorem d46_117 : decode (mB 46) 117 = .ok (.dup, 1) := by decide +kernel
theorem d46_118 : decode (mB 46) 118 = .ok (.getfield 31, 3) := by decide +kernel
theorem d46_121 : decode (mB 46) 121 = .ok (.iconst 1, 1) := by decide +kernel
theorem d46_122 : decode (mB 46) 122 = .ok (.iadd, 1) := by decide +kernel
theorem d46_123 : decode (mB 46) 123 = .ok (.putfield 31, 3) := by decide +kernel
theorem d46_126 : decode (mB 46) 126 = .ok (.iload_n 2, 1) := by decide +kernel
theorem d46_127 : decode (mB 46) 127 = .ok (.bipush 45, 2) := by decide +kernel
theorem d46_129 : decode (mB 46) 129 = .ok (.if_icmp .ne 32, 3) := by decide +kernel
theorem d46_132 : decode (mB 46) 132 = .ok (.aload_n 0, 1) := by decide +kernel
theorem d46_133 : decode (mB 46) 133 = .ok (.iload_n 1, 1) := by decide +kernel
theorem d46_134 : decode (mB 46) 134 = .ok (.iconst 1, 1) := by decide +kernel
theorem d46_135 : decode (mB 46) 135 = .ok (.iadd, 1) := by decide +kernel
theorem d46_136 : decode (mB 46) 136 = .ok (.invokevirtual 128, 3) := by decide +kernel
theorem d46_139 : decode (mB 46) 139 = .ok (.ifCond .eq 20, 3) := by decide +kernel
theorem d46_142 : decode (mB 46) 142 = .ok (.aload_n 0, 1) := by decide +kernel
theorem d46_143 : decode (mB 46) 143 = .ok (.getfield 27, 3) := by decide +kernel
theorem d46_146 : decode (mB 46) 146 = .ok (.bipush 24, 2) := by decide +kernel
theorem d46_148 : decode (mB 46) 148 = .ok (.iconst 0, 1) := by decide +kernel
theorem d46_149 : decode (mB 46) 149 = .ok (.invokevirtual 122, 3) := by decide +kernel
theorem d46_152 : decode (mB 46) 152 = .ok (.ifCond .eq 7, 3) := by decide +kernel
theorem d46_155 : decode (mB 46) 155 = .ok (.iconst 1, 1) := by decide +kernel
theorem d46_156 : decode (mB 46) 156 = .ok (.goto 4, 3) := by decide +kernel
theorem d46_159 : decode (mB 46) 159 = .ok (.iconst 0, 1) := by decide +kernel
theorem d46_160 : decode (mB 46) 160 = .ok (.ireturn, 1) := by decide +kernel
theorem d46_161 : decode (mB 46) 161 = .ok (.aload_n 0, 1) := by decide +kernel
theorem d46_162 : decode (mB 46) 162 = .ok (.iload_n 1, 1) := by decide +kernel
theorem d46_163 : decode (mB 46) 163 = .ok (.iconst 1, 1) := by decide +kernel
theorem d46_164 : decode (mB 46) 164 = .ok (.iadd, 1) := by decide +kernel
theorem d46_165 : decode (mB 46) 165 = .ok (.invokevirtual 113, 3) := by decide +kernel
theorem d46_168 : decode (mB 46) 168 = .ok (.ifCond .eq 16, 3) := by decide +kernel
theorem d46_171 : decode (mB 46) 171 = .ok (.aload_n 0, 1) := by decide +kernel
theorem d46_172 : decode (mB 46) 172 = .ok (.bipush 41, 2) := by decide +kernel
theorem d46_174 : decode (mB 46) 174 = .ok (.invokevirtual 69, 3) := by decide +kernel
theorem d46_177 : decode (mB 46) 177 = .ok (.ifCond .eq 7, 3) := by decide +kernel
theorem d46_180 : decode (mB 46) 180 = .ok (.iconst 1, 1) := by decide +kernel
theorem d46_181 : decode (mB 46) 181 = .ok (.goto 4, 3) := by decide +kernel
theorem d46_184 : decode (mB 46) 184 = .ok (.iconst 0, 1) := by decide +kernel
theorem d46_185 : decode (mB 46) 185 = .ok (.ireturn, 1) := by decide +kernel
theorem d4_0 : decode (mB 4) 0 = .ok (.aload_n 0, 1) := by decide +kernel
theorem d4_1 : decode (mB 4) 1 = .ok (.invokespecial 3, 3) := by decide +kernel
theorem d4_4 : decode (mB 4) 4 = .ok (.aload_n 0, 1) := by decide +kernel
theorem d4_5 : decode (mB 4) 5 = .ok (.bipush 40, 2) := by decide +kernel
theorem d4_7 : decode (mB 4) 7 = .ok (.newarray .int, 2) := by decide +kernel
theorem d4_9 : decode (mB 4) 9 = .ok (.putfield 9, 3) := by decide +kernel
theorem d4_12 : decode (mB 4) 12 = .ok (.aload_n 0, 1) := by decide +kernel
theorem d4_13 : decode (mB 4) 13 = .ok (.bipush 40, 2) := by decide +kernel
theorem d4_15 : decode (mB 4) 15 = .ok (.newarray .int, 2) := by decide +kernel
theorem d4_17 : decode (mB 4) 17 = .ok (.putfield 15, 3) := by decide +kernel
theorem d4_20 : decode (mB 4) 20 = .ok (.aload_n 0, 1) := by decide +kernel
theorem d4_21 : decode (mB 4) 21 = .ok (.bipush 40, 2) := by decide +kernel
theorem d4_23 : decode (mB 4) 23 = .ok (.newarray .int, 2) := by decide +kernel
theorem d4_25 : decode (mB 4) 25 = .ok (.putfield 18, 3) := by decide +kernel
theorem d4_28 : decode (mB 4) 28 = .ok (.aload_n 0, 1) := by decide +kernel
theorem d4_29 : decode (mB 4) 29 = .ok (.bipush 40, 2) := by decide +kernel
theorem d4_31 : decode (mB 4) 31 = .ok (.newarray .int, 2) := by decide +kernel
theorem d4_33 : decode (mB 4) 33 = .ok (.putfield 21, 3) := by decide +kernel
theorem d4_36 : decode (mB 4) 36 = .ok (.aload_n 0, 1) := by decide +kernel
theorem d4_37 : decode (mB 4) 37 = .ok (.bipush 40, 2) := by decide +kernel
theorem d4_39 : decode (mB 4) 39 = .ok (.newarray .int, 2) := by decide +kernel
theorem d4_41 : decode (mB 4) 41 = .ok (.putfield 24, 3) := by decide +kernel
theorem d4_44 : decode (mB 4) 44 = .ok (.aload_n 0, 1) := by decide +kernel
theorem d4_45 : decode (mB 4) 45 = .ok (.bipush 40, 2) := by decide +kernel
theorem d4_47 : decode (mB 4) 47 = .ok (.newarray .int, 2) := by decide +kernel
theorem d4_49 : decode (mB 4) 49 = .ok (.putfield 27, 3) := by decide +kernel
theorem d4_52 : decode (mB 4) 52 = .ok (.aload_n 0, 1) := by decide +kernel
theorem d4_53 : decode (mB 4) 53 = .ok (.bipush 121, 2) := by decide +kernel
theorem d4_55 : decode (mB 4) 55 = .ok (.newarray .int, 2) := by decide +kernel
theorem d4_57 : decode (mB 4) 57 = .ok (.putfield 30, 3) := by decide +kernel
theorem d4_60 : decode (mB 4) 60 = .ok (.aload_n 0, 1) := by decide +kernel
theorem d4_61 : decode (mB 4) 61 = .ok (.bipush 120, 2) := by decide +kernel
theorem d4_63 : decode (mB 4) 63 = .ok (.newarray .int, 2) := by decide +kernel
theorem d4_65 : decode (mB 4) 65 = .ok (.putfield 33, 3) := by decide +kernel
theorem d4_68 : decode (mB 4) 68 = .ok (.aload_n 0, 1) := by decide +kernel
theorem d4_69 : decode (mB 4) 69 = .ok (.bipush 120, 2) := by decide +kernel
theorem d4_71 : decode (mB 4) 71 = .ok (.newarray .int, 2) := by decide +kernel
theorem d4_73 : decode (mB 4) 73 = .ok (.putfield 36, 3) := by decide +kernel
theorem d4_76 : decode (mB 4) 76 = .ok (.aload_n 0, 1) := by decide +kernel
theorem d4_77 : decode (mB 4) 77 = .ok (.bipush 60, 2) := by decide +kernel
theorem d4_79 : decode (mB 4) 79 = .ok (.newarray .long, 2) := by decide +kernel
theorem d4_81 : decode (mB 4) 81 = .ok (.putfield 39, 3) := by decide +kernel
theorem d4_84 : decode (mB 4) 84 = .ok (.return_, 1) := by decide +kernel
theorem d35_0 : decode (mB 35) 0 = .ok (.aload_n 0, 1) := by decide +kernel
theorem d35_1 : decode (mB 35) 1 = .ok (.iconst 0, 1) := by decide +kernel
theorem d35_2 : decode (mB 35) 2 = .ok (.putfield 43, 3) := by decide +kernel
theorem d35_5 : decode (mB 35) 5 = .ok (.aload_n 0, 1) := by decide +kernel
theorem d35_6 : decode (mB 35) 6 = .ok (.iconst 0, 1) := by decide +kernel
theorem d35_7 : decode (mB 35) 7 = .ok (.putfield 47, 3) := by decide +kernel
theorem d35_10 : decode (mB 35) 10 = .ok (.aload_n 0, 1) := by decide +kernel
theorem d35_11 : decode (mB 35) 11 = .ok (.iconst 0, 1) := by decide +kernel
theorem d35_12 : decode (mB 35) 12 = .ok (.putfield 50, 3) := by decide +kernel
theorem d35_15 : decode (mB 35) 15 = .ok (.aload_n 0, 1) := by decide +kernel
theorem d35_16 : decode (mB 35) 16 = .ok (.iconst 0, 1) := by decide +kernel
theorem d35_17 : decode (mB 35) 17 = .ok (.putfield 53, 3) := by decide +kernel
theorem d35_20 : decode (mB 35) 20 = .ok (.aload_n 0, 1) := by decide +kernel
theorem d35_21 : decode (mB 35) 21 = .ok (.getfield 30, 3) := by decide +kernel
theorem d35_24 : decode (mB 35) 24 = .ok (.bipush 120, 2) := by decide +kernel
theorem d35_26 : decode (mB 35) 26 = .ok (.iconst (-1), 1) := by decide +kernel
theorem d35_27 : decode (mB 35) 27 = .ok (.iastore, 1) := by decide +kernel
theorem d35_28 : decode (mB 35) 28 = .ok (.return_, 1) := by decide +kernel
theorem d39_0 : decode (mB 39) 0 = .ok (.aload_n 0, 1) := by decide +kernel
theorem d39_1 : decode (mB 39) 1 = .ok (.getfield 43, 3) := by decide +kernel
theorem d39_4 : decode (mB 39) 4 = .ok (.istore_n 2, 1) := by decide +kernel
theorem d39_5 : decode (mB 39) 5 = .ok (.aload_n 0, 1) := by decide +kernel
theorem d39_6 : decode (mB 39) 6 = .ok (.getfield 9, 3) := by decide +kernel
theorem d39_9 : decode (mB 39) 9 = .ok (.iload_n 2, 1) := by decide +kernel
theorem d39_10 : decode (mB 39) 10 = .ok (.iload_n 1, 1) := by decide +kernel
theorem d39_11 : decode (mB 39) 11 = .ok (.iastore, 1) := by decide +kernel
theorem d39_12 : decode (mB 39) 12 = .ok (.aload_n 0, 1) := by decide +kernel
theorem d39_13 : decode (mB 39) 13 = .ok (.getfield 27, 3) := by decide +kernel
theorem d39_16 : decode (mB 39) 16 = .ok (.iload_n 2, 1) := by decide +kernel
theorem d39_17 : decode (mB 39) 17 = .ok (.iconst (-1), 1) := by decide +kernel
theorem d39_18 : decode (mB 39) 18 = .ok (.iastore, 1) := by decide +kernel
theorem d39_19 : decode (mB 39) 19 = .ok (.iconst 0, 1) := by decide +kernel
theorem d39_20 : decode (mB 39) 20 = .ok (.istore_n 3, 1) := by decide +kernel
theorem d39_21 : decode (mB 39) 21 = .ok (.iload_n 3, 1) := by decide +kernel
theorem d39_22 : decode (mB 39) 22 = .ok (.iconst 3, 1) := by decide +kernel
theorem d39_23 : decode (mB 39) 23 = .ok (.if_icmp .ge 21, 3) := by decide +kernel
theorem d39_26 : decode (mB 39) 26 = .ok (.aload_n 0, 1) := by decide +kernel
theorem d39_27 : decode (mB 39) 27 = .ok (.getfield 30, 3) := by decide +kernel
theorem d39_30 : decode (mB 39) 30 = .ok (.iconst 3, 1) := by decide +kernel
theorem d39_31 : decode (mB 39) 31 = .ok (.iload_n 2, 1) := by decide +kernel
theorem d39_32 : decode (mB 39) 32 = .ok (.imul, 1) := by decide +kernel
theorem d39_33 : decode (mB 39) 33 = .ok (.iload_n 3, 1) := by decide +kernel
theorem d39_34 : decode (mB 39) 34 = .ok (.iadd, 1) := by decide +kernel
theorem d39_35 : decode (mB 39) 35 = .ok (.bipush (-2), 2) := by decide +kernel
theorem d39_37 : decode (mB 39) 37 = .ok (.iastore, 1) := by decide +kernel
theorem d39_38 : decode (mB 39) 38 = .ok (.iinc 3 1, 3) := by decide +kernel
theorem d39_41 : decode (mB 39) 41 = .ok (.goto (-20), 3) := by decide +kernel
theorem d39_44 : decode (mB 39) 44 = .ok (.aload_n 0, 1) := by decide +kernel
theorem d39_45 : decode (mB 39) 45 = .ok (.dup, 1) := by decide +kernel
theorem d39_46 : decode (mB 39) 46 = .ok (.getfield 43, 3) := by decide +kernel
theorem d39_49 : decode (mB 39) 49 = .ok (.iconst 1, 1) := by decide +kernel
theorem d39_50 : decode (mB 39) 50 = .ok (.iadd, 1) := by decide +kernel
theorem d39_51 : decode (mB 39) 51 = .ok (.putfield 43, 3) := by decide +kernel
theorem d39_54 : decode (mB 39) 54 = .ok (.iload_n 2, 1) := by decide +kernel
theorem d39_55 : decode (mB 39) 55 = .ok (.ireturn, 1) := by decide +kernel
theorem d47_0 : decode (mB 47) 0 = .ok (.aload_n 0, 1) := by decide +kernel
theorem d47_1 : decode (mB 47) 1 = .ok (.getfield 53, 3) := by decide +kernel
theorem d47_4 : decode (mB 47) 4 = .ok (.bipush 120, 2) := by decide +kernel
end
section
/-! what stands at each place of the code -/
theorem d47_6 : decode (mB 47) 6 = .ok (.if_icmp .lt 5, 3) := by decide +kernel
theorem d47_9 : decode (mB 47) 9 = .ok (.iconst 0, 1) := by decide +kernel
theorem d47_10 : decode (mB 47) 10 = .ok (.ireturn, 1) := by decide +kernel
theorem d47_11 : decode (mB 47) 11 = .ok (.aload_n 0, 1) := by decide +kernel
theorem d47_12 : decode (mB 47) 12 = .ok (.getfield 33, 3) := by decide +kernel
theorem d47_15 : decode (mB 47) 15 = .ok (.aload_n 0, 1) := by decide +kernel
theorem d47_16 : decode (mB 47) 16 = .ok (.getfield 53, 3) := by decide +kernel
theorem d47_19 : decode (mB 47) 19 = .ok (.iload_n 1, 1) := by decide +kernel
theorem d47_20 : decode (mB 47) 20 = .ok (.iastore, 1) := by decide +kernel
theorem d47_21 : decode (mB 47) 21 = .ok (.aload_n 0, 1) := by decide +kernel
theorem d47_22 : decode (mB 47) 22 = .ok (.getfield 36, 3) := by decide +kernel
theorem d47_25 : decode (mB 47) 25 = .ok (.aload_n 0, 1) := by decide +kernel
theorem d47_26 : decode (mB 47) 26 = .ok (.getfield 53, 3) := by decide +kernel
theorem d47_29 : decode (mB 47) 29 = .ok (.iload_n 2, 1) := by decide +kernel
theorem d47_30 : decode (mB 47) 30 = .ok (.iastore, 1) := by decide +kernel
theorem d47_31 : decode (mB 47) 31 = .ok (.aload_n 0, 1) := by decide +kernel
theorem d47_32 : decode (mB 47) 32 = .ok (.dup, 1) := by decide +kernel
theorem d47_33 : decode (mB 47) 33 = .ok (.getfield 53, 3) := by decide +kernel
theorem d47_36 : decode (mB 47) 36 = .ok (.iconst 1, 1) := by decide +kernel
theorem d47_37 : decode (mB 47) 37 = .ok (.iadd, 1) := by decide +kernel
theorem d47_38 : decode (mB 47) 38 = .ok (.putfield 53, 3) := by decide +kernel
theorem d47_41 : decode (mB 47) 41 = .ok (.iconst 1, 1) := by decide +kernel
theorem d47_42 : decode (mB 47) 42 = .ok (.ireturn, 1) := by decide +kernel
theorem d72_0 : decode (mB 72) 0 = .ok (.aload_n 0, 1) := by decide +kernel
theorem d72_1 : decode (mB 72) 1 = .ok (.getfield 30, 3) := by decide +kernel
theorem d72_4 : decode (mB 72) 4 = .ok (.iconst 3, 1) := by decide +kernel
theorem d72_5 : decode (mB 72) 5 = .ok (.iload_n 1, 1) := by decide +kernel
theorem d72_6 : decode (mB 72) 6 = .ok (.imul, 1) := by decide +kernel
theorem d72_7 : decode (mB 72) 7 = .ok (.iload_n 2, 1) := by decide +kernel
theorem d72_8 : decode (mB 72) 8 = .ok (.iadd, 1) := by decide +kernel
theorem d72_9 : decode (mB 72) 9 = .ok (.iaload, 1) := by decide +kernel
theorem d72_10 : decode (mB 72) 10 = .ok (.ireturn, 1) := by decide +kernel
theorem d85_0 : decode (mB 85) 0 = .ok (.iconst (-1), 1) := by decide +kernel
theorem d85_1 : decode (mB 85) 1 = .ok (.istore_n 3, 1) := by decide +kernel
theorem d85_2 : decode (mB 85) 2 = .ok (.aload_n 0, 1) := by decide +kernel
theorem d85_3 : decode (mB 85) 3 = .ok (.getfield 21, 3) := by decide +kernel
theorem d85_6 : decode (mB 85) 6 = .ok (.iload_n 1, 1) := by decide +kernel
theorem d85_7 : decode (mB 85) 7 = .ok (.iaload, 1) := by decide +kernel
theorem d85_8 : decode (mB 85) 8 = .ok (.istore 4, 2) := by decide +kernel
theorem d85_10 : decode (mB 85) 10 = .ok (.iload 4, 2) := by decide +kernel
theorem d85_12 : decode (mB 85) 12 = .ok (.aload_n 0, 1) := by decide +kernel
theorem d85_13 : decode (mB 85) 13 = .ok (.getfield 24, 3) := by decide +kernel
theorem d85_16 : decode (mB 85) 16 = .ok (.iload_n 1, 1) := by decide +kernel
theorem d85_17 : decode (mB 85) 17 = .ok (.iaload, 1) := by decide +kernel
theorem d85_18 : decode (mB 85) 18 = .ok (.if_icmp .ge 122, 3) := by decide +kernel
theorem d85_21 : decode (mB 85) 21 = .ok (.aload_n 0, 1) := by decide +kernel
theorem d85_22 : decode (mB 85) 22 = .ok (.getfield 33, 3) := by decide +kernel
theorem d85_25 : decode (mB 85) 25 = .ok (.iload 4, 2) := by decide +kernel
theorem d85_27 : decode (mB 85) 27 = .ok (.iaload, 1) := by decide +kernel
theorem d85_28 : decode (mB 85) 28 = .ok (.istore 5, 2) := by decide +kernel
theorem d85_30 : decode (mB 85) 30 = .ok (.iload 5, 2) := by decide +kernel
theorem d85_32 : decode (mB 85) 32 = .ok (.iconst 4, 1) := by decide +kernel
theorem d85_33 : decode (mB 85) 33 = .ok (.if_icmp .ne 23, 3) := by decide +kernel
theorem d85_36 : decode (mB 85) 36 = .ok (.iinc 3 1, 3) := by decide +kernel
theorem d85_39 : decode (mB 85) 39 = .ok (.aload_n 0, 1) := by decide +kernel
theorem d85_40 : decode (mB 85) 40 = .ok (.getfield 39, 3) := by decide +kernel
theorem d85_43 : decode (mB 85) 43 = .ok (.iload_n 3, 1) := by decide +kernel
theorem d85_44 : decode (mB 85) 44 = .ok (.aload_n 0, 1) := by decide +kernel
theorem d85_45 : decode (mB 85) 45 = .ok (.getfield 36, 3) := by decide +kernel
theorem d85_48 : decode (mB 85) 48 = .ok (.iload 4, 2) := by decide +kernel
theorem d85_50 : decode (mB 85) 50 = .ok (.iaload, 1) := by decide +kernel
theorem d85_51 : decode (mB 85) 51 = .ok (.i2l, 1) := by decide +kernel
theorem d85_52 : decode (mB 85) 52 = .ok (.lastore, 1) := by decide +kernel
theorem d85_53 : decode (mB 85) 53 = .ok (.goto 81, 3) := by decide +kernel
theorem d85_56 : decode (mB 85) 56 = .ok (.iload 5, 2) := by decide +kernel
theorem d85_58 : decode (mB 85) 58 = .ok (.iconst 2, 1) := by decide +kernel
theorem d85_59 : decode (mB 85) 59 = .ok (.if_icmp .ne 24, 3) := by decide +kernel
theorem d85_62 : decode (mB 85) 62 = .ok (.iinc 3 1, 3) := by decide +kernel
theorem d85_65 : decode (mB 85) 65 = .ok (.aload_n 0, 1) := by decide +kernel
theorem d85_66 : decode (mB 85) 66 = .ok (.getfield 39, 3) := by decide +kernel
theorem d85_69 : decode (mB 85) 69 = .ok (.iload_n 3, 1) := by decide +kernel
theorem d85_70 : decode (mB 85) 70 = .ok (.aload_n 2, 1) := by decide +kernel
theorem d85_71 : decode (mB 85) 71 = .ok (.aload_n 0, 1) := by decide +kernel
theorem d85_72 : decode (mB 85) 72 = .ok (.getfield 36, 3) := by decide +kernel
theorem d85_75 : decode (mB 85) 75 = .ok (.iload 4, 2) := by decide +kernel
theorem d85_77 : decode (mB 85) 77 = .ok (.iaload, 1) := by decide +kernel
theorem d85_78 : decode (mB 85) 78 = .ok (.laload, 1) := by decide +kernel
theorem d85_79 : decode (mB 85) 79 = .ok (.lastore, 1) := by decide +kernel
theorem d85_80 : decode (mB 85) 80 = .ok (.goto 54, 3) := by decide +kernel
theorem d85_83 : decode (mB 85) 83 = .ok (.iload 5, 2) := by decide +kernel
theorem d85_85 : decode (mB 85) 85 = .ok (.bipush 24, 2) := by decide +kernel
theorem d85_87 : decode (mB 85) 87 = .ok (.if_icmp .ne 19, 3) := by decide +kernel
theorem d85_90 : decode (mB 85) 90 = .ok (.aload_n 0, 1) := by decide +kernel
theorem d85_91 : decode (mB 85) 91 = .ok (.getfield 39, 3) := by decide +kernel
theorem d85_94 : decode (mB 85) 94 = .ok (.iload_n 3, 1) := by decide +kernel
theorem d85_95 : decode (mB 85) 95 = .ok (.aload_n 0, 1) := by decide +kernel
theorem d85_96 : decode (mB 85) 96 = .ok (.getfield 39, 3) := by decide +kernel
theorem d85_99 : decode (mB 85) 99 = .ok (.iload_n 3, 1) := by decide +kernel
theorem d85_100 : decode (mB 85) 100 = .ok (.laload, 1) := by decide +kernel
theorem d85_101 : decode (mB 85) 101 = .ok (.lneg, 1) := by decide +kernel
theorem d85_102 : decode (mB 85) 102 = .ok (.lastore, 1) := by decide +kernel
theorem d85_103 : decode (mB 85) 103 = .ok (.goto 31, 3) := by decide +kernel
theorem d85_106 : decode (mB 85) 106 = .ok (.iinc 3 (-1), 3) := by decide +kernel
theorem d85_109 : decode (mB 85) 109 = .ok (.aload_n 0, 1) := by decide +kernel
theorem d85_110 : decode (mB 85) 110 = .ok (.getfield 39, 3) := by decide +kernel
theorem d85_113 : decode (mB 85) 113 = .ok (.iload_n 3, 1) := by decide +kernel
theorem d85_114 : decode (mB 85) 114 = .ok (.iload 5, 2) := by decide +kernel
theorem d85_116 : decode (mB 85) 116 = .ok (.aload_n 0, 1) := by decide +kernel
theorem d85_117 : decode (mB 85) 117 = .ok (.getfield 39, 3) := by decide +kernel
theorem d85_120 : decode (mB 85) 120 = .ok (.iload_n 3, 1) := by decide +kernel
theorem d85_121 : decode (mB 85) 121 = .ok (.laload, 1) := by decide +kernel
theorem d85_122 : decode (mB 85) 122 = .ok (.aload_n 0, 1) := by decide +kernel
theorem d85_123 : decode (mB 85) 123 = .ok (.getfield 39, 3) := by decide +kernel
theorem d85_126 : decode (mB 85) 126 = .ok (.iload_n 3, 1) := by decide +kernel
theorem d85_127 : decode (mB 85) 127 = .ok (.iconst 1, 1) := by decide +kernel
theorem d85_128 : decode (mB 85) 128 = .ok (.iadd, 1) := by decide +kernel
theorem d85_129 : decode (mB 85) 129 = .ok (.laload, 1) := by decide +kernel
theorem d85_130 : decode (mB 85) 130 = .ok (.invokestatic 56, 3) := by decide +kernel
theorem d85_133 : decode (mB 85) 133 = .ok (.lastore, 1) := by decide +kernel
theorem d85_134 : decode (mB 85) 134 = .ok (.iinc 4 1, 3) := by decide +kernel
theorem d85_137 : decode (mB 85) 137 = .ok (.goto (-127), 3) := by decide +kernel
theorem d85_140 : decode (mB 85) 140 = .ok (.aload_n 0, 1) := by decide +kernel
theorem d85_141 : decode (mB 85) 141 = .ok (.getfield 39, 3) := by decide +kernel
theorem d85_144 : decode (mB 85) 144 = .ok (.iconst 0, 1) := by decide +kernel
theorem d85_145 : decode (mB 85) 145 = .ok (.laload, 1) := by decide +kernel
theorem d85_146 : decode (mB 85) 146 = .ok (.lreturn, 1) := by decide +kernel
theorem d86_0 : decode (mB 86) 0 = .ok (.iload_n 0, 1) := by decide +kernel
theorem d86_1 : decode (mB 86) 1 = .ok (.lookupswitch 87 #[(42, 59), (43, 51), (45, 55), (60, 63), (61, 75)], 51) := by decide +kernel
theorem d86_52 : decode (mB 86) 52 = .ok (.lload_n 1, 1) := by decide +kernel
theorem d86_53 : decode (mB 86) 53 = .ok (.lload_n 3, 1) := by decide +kernel
theorem d86_54 : decode (mB 86) 54 = .ok (.ladd, 1) := by decide +kernel
theorem d86_55 : decode (mB 86) 55 = .ok (.lreturn, 1) := by decide +kernel
theorem d86_56 : decode (mB 86) 56 = .ok (.lload_n 1, 1) := by decide +kernel
theorem d86_57 : decode (mB 86) 57 = .ok (.lload_n 3, 1) := by decide +kernel
theorem d86_58 : decode (mB 86) 58 = .ok (.lsub, 1) := by decide +kernel
theorem d86_59 : decode (mB 86) 59 = .ok (.lreturn, 1) := by decide +kernel
theorem d86_60 : decode (mB 86) 60 = .ok (.lload_n 1, 1) := by decide +kernel
theorem d86_61 : decode (mB 86) 61 = .ok (.lload_n 3, 1) := by decide +kernel
theorem d86_62 : decode (mB 86) 62 = .ok (.lmul, 1) := by decide +kernel
theorem d86_63 : decode (mB 86) 63 = .ok (.lreturn, 1) := by decide +kernel
theorem d86_64 : decode (mB 86) 64 = .ok (.lload_n 1, 1) := by decide +kernel
theorem d86_65 : decode (mB 86) 65 = .ok (.lload_n 3, 1) := by decide +kernel
theorem d86_66 : decode (mB 86) 66 = .ok (.lcmp, 1) := by decide +kernel
theorem d86_67 : decode (mB 86) 67 = .ok (.ifCond .ge 7, 3) := by decide +kernel
theorem d86_70 : decode (mB 86) 70 = .ok (.lconst 1, 1) := by decide +kernel
theorem d86_71 : decode (mB 86) 71 = .ok (.goto 4, 3) := by decide +kernel
theorem d86_74 : decode (mB 86) 74 = .ok (.lconst 0, 1) := by decide +kernel
theorem d86_75 : decode (mB 86) 75 = .ok (.lreturn, 1) := by decide +kernel
theorem d86_76 : decode (mB 86) 76 = .ok (.lload_n 1, 1) := by decide +kernel
theorem d86_77 : decode (mB 86) 77 = .ok (.lload_n 3, 1) := by decide +kernel
theorem d86_78 : decode (mB 86) 78 = .ok (.lcmp, 1) := by decide +kernel
theorem d86_79 : decode (mB 86) 79 = .ok (.ifCond .ne 7, 3) := by decide +kernel
theorem d86_82 : decode (mB 86) 82 = .ok (.lconst 1, 1) := by decide +kernel
theorem d86_83 : decode (mB 86) 83 = .ok (.goto 4, 3) := by decide +kernel
theorem d86_86 : decode (mB 86) 86 = .ok (.lconst 0, 1) := by decide +kernel
theorem d86_87 : decode (mB 86) 87 = .ok (.lreturn, 1) := by decide +kernel
theorem d86_88 : decode (mB 86) 88 = .ok (.lload_n 1, 1) := by decide +kernel
theorem d86_89 : decode (mB 86) 89 = .ok (.lload_n 3, 1) := by decide +kernel
theorem d86_90 : decode (mB 86) 90 = .ok (.lcmp, 1) := by decide +kernel
theorem d86_91 : decode (mB 86) 91 = .ok (.ifCond .eq 7, 3) := by decide +kernel
theorem d86_94 : decode (mB 86) 94 = .ok (.lconst 1, 1) := by decide +kernel
theorem d86_95 : decode (mB 86) 95 = .ok (.goto 4, 3) := by decide +kernel
theorem d86_98 : decode (mB 86) 98 = .ok (.lconst 0, 1) := by decide +kernel
theorem d86_99 : decode (mB 86) 99 = .ok (.lreturn, 1) := by decide +kernel
theorem d8_0 : decode (mB 8) 0 = .ok (.aload_n 0, 1) := by decide +kernel
theorem d8_1 : decode (mB 8) 1 = .ok (.invokespecial 3, 3) := by decide +kernel
theorem d8_4 : decode (mB 8) 4 = .ok (.aload_n 0, 1) := by decide +kernel
theorem d8_5 : decode (mB 8) 5 = .ok (.bipush 22, 2) := by decide +kernel
theorem d8_7 : decode (mB 8) 7 = .ok (.newarray .int, 2) := by decide +kernel
theorem d8_9 : decode (mB 8) 9 = .ok (.putfield 9, 3) := by decide +kernel
theorem d8_12 : decode (mB 8) 12 = .ok (.aload_n 0, 1) := by decide +kernel
theorem d8_13 : decode (mB 8) 13 = .ok (.bipush 22, 2) := by decide +kernel
theorem d8_15 : decode (mB 8) 15 = .ok (.newarray .int, 2) := by decide +kernel
theorem d8_17 : decode (mB 8) 17 = .ok (.putfield 15, 3) := by decide +kernel
theorem d8_20 : decode (mB 8) 20 = .ok (.aload_n 0, 1) := by decide +kernel
theorem d8_21 : decode (mB 8) 21 = .ok (.bipush 22, 2) := by decide +kernel
theorem d8_23 : decode (mB 8) 23 = .ok (.newarray .long, 2) := by decide +kernel
theorem d8_25 : decode (mB 8) 25 = .ok (.putfield 18, 3) := by decide +kernel
theorem d8_28 : decode (mB 8) 28 = .ok (.return_, 1) := by decide +kernel
theorem d67_0 : decode (mB 67) 0 = .ok (.aload_n 0, 1) := by decide +kernel
theorem d67_1 : decode (mB 67) 1 = .ok (.getfield 22, 3) := by decide +kernel
theorem d67_4 : decode (mB 67) 4 = .ok (.bipush 22, 2) := by decide +kernel
theorem d67_6 : decode (mB 67) 6 = .ok (.if_icmp .lt 4, 3) := by decide +kernel
theorem d67_9 : decode (mB 67) 9 = .ok (.return_, 1) := by decide +kernel
theorem d67_10 : decode (mB 67) 10 = .ok (.aload_n 0, 1) := by decide +kernel
theorem d67_11 : decode (mB 67) 11 = .ok (.getfield 9, 3) := by decide +kernel
theorem d67_14 : decode (mB 67) 14 = .ok (.aload_n 0, 1) := by decide +kernel
theorem d67_15 : decode (mB 67) 15 = .ok (.getfield 22, 3) := by decide +kernel
theorem d67_18 : decode (mB 67) 18 = .ok (.iload_n 1, 1) := by decide +kernel
theorem d67_19 : decode (mB 67) 19 = .ok (.iastore, 1) := by decide +kernel
theorem d67_20 : decode (mB 67) 20 = .ok (.aload_n 0, 1) := by decide +kernel
theorem d67_21 : decode (mB 67) 21 = .ok (.getfield 15, 3) := by decide +kernel
theorem d67_24 : decode (mB 67) 24 = .ok (.aload_n 0, 1) := by decide +kernel
theorem d67_25 : decode (mB 67) 25 = .ok (.getfield 22, 3) := by decide +kernel
theorem d67_28 : decode (mB 67) 28 = .ok (.iload_n 2, 1) := by decide +kernel
theorem d67_29 : decode (mB 67) 29 = .ok (.iastore, 1) := by decide +kernel
theorem d67_30 : decode (mB 67) 30 = .ok (.aload_n 0, 1) := by decide +kernel
theorem d67_31 : decode (mB 67) 31 = .ok (.getfield 18, 3) := by decide +kernel
theorem d67_34 : decode (mB 67) 34 = .ok (.aload_n 0, 1) := by decide +kernel
theorem d67_35 : decode (mB 67) 35 = .ok (.getfield 22, 3) := by decide +kernel
theorem d67_38 : decode (mB 67) 38 = .ok (.lload_n 3, 1) := by decide +kernel
theorem d67_39 : decode (mB 67) 39 = .ok (.lastore, 1) := by decide +kernel
theorem d67_40 : decode (mB 67) 40 = .ok (.aload_n 0, 1) := by decide +kernel
theorem d67_41 : decode (mB 67) 41 = .ok (.dup, 1) := by decide +kernel
theorem d67_42 : decode (mB 67) 42 = .ok (.getfield 22, 3) := by decide +kernel
theorem d67_45 : decode (mB 67) 45 = .ok (.iconst 1, 1) := by decide +kernel
theorem d67_46 : decode (mB 67) 46 = .ok (.iadd, 1) := by decide +kernel
theorem d67_47 : decode (mB 67) 47 = .ok (.putfield 22, 3) := by decide +kernel
theorem d67_50 : decode (mB 67) 50 = .ok (.return_, 1) := by decide +kernel
theorem d78_0 : decode (mB 78) 0 = .ok (.iload_n 1, 1) := by decide +kernel
theorem d78_1 : decode (mB 78) 1 = .ok (.ifCond .lt 11, 3) := by decide +kernel
theorem d78_4 : decode (mB 78) 4 = .ok (.iload_n 1, 1) := by decide +kernel
theorem d78_5 : decode (mB 78) 5 = .ok (.aload_n 0, 1) := by decide +kernel
theorem d78_6 : decode (mB 78) 6 = .ok (.getfield 22, 3) := by decide +kernel
theorem d78_9 : decode (mB 78) 9 = .ok (.if_icmp .lt 4, 3) := by decide +kernel
theorem d78_12 : decode (mB 78) 12 = .ok (.return_, 1) := by decide +kernel
theorem d78_13 : decode (mB 78) 13 = .ok (.iload_n 1, 1) := by decide +kernel
theorem d78_14 : decode (mB 78) 14 = .ok (.iconst 1, 1) := by decide +kernel
theorem d78_15 : decode (mB 78) 15 = .ok (.iadd, 1) := by decide +kernel
theorem d78_16 : decode (mB 78) 16 = .ok (.istore_n 2, 1) := by decide +kernel
theorem d78_17 : decode (mB 78) 17 = .ok (.iload_n 2, 1) := by decide +kernel
theorem d78_18 : decode (mB 78) 18 = .ok (.aload_n 0, 1) := by decide +kernel
theorem d78_19 : decode (mB 78) 19 = .ok (.getfield 22, 3) := by decide +kernel
theorem d78_22 : decode (mB 78) 22 = .ok (.if_icmp .ge 51, 3) := by decide +kernel
theorem d78_25 : decode (mB 78) 25 = .ok (.aload_n 0, 1) := by decide +kernel
theorem d78_26 : decode (mB 78) 26 = .ok (.getfield 9, 3) := by decide +kernel
theorem d78_29 : decode (mB 78) 29 = .ok (.iload_n 2, 1) := by decide +kernel
theorem d78_30 : decode (mB 78) 30 = .ok (.iconst 1, 1) := by decide +kernel
theorem d78_31 : decode (mB 78) 31 = .ok (.isub, 1) := by decide +kernel
theorem d78_32 : decode (mB 78) 32 = .ok (.aload_n 0, 1) := by decide +kernel
theorem d78_33 : decode (mB 78) 33 = .ok (.getfield 9, 3) := by decide +kernel
theorem d78_36 : decode (mB 78) 36 = .ok (.iload_n 2, 1) := by decide +kernel
theorem d78_37 : decode (mB 78) 37 = .ok (.iaload, 1) := by decide +kernel
theorem d78_38 : decode (mB 78) 38 = .ok (.iastore, 1) := by decide +kernel
theorem d78_39 : decode (mB 78) 39 = .ok (.aload_n 0, 1) := by decide +kernel
theorem d78_40 : decode (mB 78) 40 = .ok (.getfield 15, 3) := by decide +kernel
theorem d78_43 : decode (mB 78) 43 = .ok (.iload_n 2, 1) := by decide +kernel
theorem d78_44 : decode (mB 78) 44 = .ok (.iconst 1, 1) := by decide +kernel
theorem d78_45 : decode (mB 78) 45 = .ok (.isub, 1) := by decide +kernel
theorem d78_46 : decode (mB 78) 46 = .ok (.aload_n 0, 1) := by decide +kernel
theorem d78_47 : decode (mB 78) 47 = .ok (.getfield 15, 3) := by decide +kernel
theorem d78_50 : decode (mB 78) 50 = .ok (.iload_n 2, 1) := by decide +kernel
theorem d78_51 : decode (mB 78) 51 = .ok (.iaload, 1) := by decide +kernel
theorem d78_52 : decode (mB 78) 52 = .ok (.iastore, 1) := by decide +kernel
theorem d78_53 : decode (mB 78) 53 = .ok (.aload_n 0, 1) := by decide +kernel
theorem d78_54 : decode (mB 78) 54 = .ok (.getfield 18, 3) := by decide +kernel
theorem d78_57 : decode (mB 78) 57 = .ok (.iload_n 2, 1) := by decide +kernel
theorem d78_58 : decode (mB 78) 58 = .ok (.iconst 1, 1) := by decide +kernel
theorem d78_59 : decode (mB 78) 59 = .ok (.isub, 1) := by decide +kernel
theorem d78_60 : decode (mB 78) 60 = .ok (.aload_n 0, 1) := by decide +kernel
theorem d78_61 : decode (mB 78) 61 = .ok (.getfield 18, 3) := by decide +kernel
theorem d78_64 : decode (mB 78) 64 = .ok (.iload_n 2, 1) := by decide +kernel
theorem d78_65 : decode (mB 78) 65 = .ok (.laload, 1) := by decide +kernel
theorem d78_66 : decode (mB 78) 66 = .ok (.lastore, 1) := by decide +kernel
theorem d78_67 : decode (mB 78) 67 = .ok (.iinc 2 1, 3) := by decide +kernel
theorem d78_70 : decode (mB 78) 70 = .ok (.goto (-53), 3) := by decide +kernel
theorem d78_73 : decode (mB 78) 73 = .ok (.aload_n 0, 1) := by decide +kernel
theorem d78_74 : decode (mB 78) 74 = .ok (.dup, 1) := by decide +kernel
theorem d78_75 : decode (mB 78) 75 = .ok (.getfield 22, 3) := by decide +kernel
theorem d78_78 : decode (mB 78) 78 = .ok (.iconst 1, 1) := by decide +kernel
theorem d78_79 : decode (mB 78) 79 = .ok (.isub, 1) := by decide +kernel
theorem d78_80 : decode (mB 78) 80 = .ok (.putfield 22, 3) := by decide +kernel
theorem d78_83 : decode (mB 78) 83 = .ok (.return_, 1) := by decide +kernel
theorem d98_0 : decode (mB 98) 0 = .ok (.iconst 0, 1) := by decide +kernel
theorem d98_1 : decode (mB 98) 1 = .ok (.istore_n 2, 1) := by decide +kernel
theorem d98_2 : decode (mB 98) 2 = .ok (.iconst 0, 1) := by decide +kernel
theorem d98_3 : decode (mB 98) 3 = .ok (.istore_n 3, 1) := by decide +kernel
theorem d98_4 : decode (mB 98) 4 = .ok (.iload_n 3, 1) := by decide +kernel
theorem d98_5 : decode (mB 98) 5 = .ok (.aload_n 0, 1) := by decide +kernel
theorem d98_6 : decode (mB 98) 6 = .ok (.getfield 22, 3) := by decide +kernel
theorem d98_9 : decode (mB 98) 9 = .ok (.if_icmp .ge 22, 3) := by decide +kernel
theorem d98_12 : decode (mB 98) 12 = .ok (.aload_n 0, 1) := by decide +kernel
theorem d98_13 : decode (mB 98) 13 = .ok (.getfield 9, 3) := by decide +kernel
theorem d98_16 : decode (mB 98) 16 = .ok (.iload_n 3, 1) := by decide +kernel
theorem d98_17 : decode (mB 98) 17 = .ok (.iaload, 1) := by decide +kernel
theorem d98_18 : decode (mB 98) 18 = .ok (.iload_n 1, 1) := by decide +kernel
theorem d98_19 : decode (mB 98) 19 = .ok (.if_icmp .ne 6, 3) := by decide +kernel
theorem d98_22 : decode (mB 98) 22 = .ok (.iinc 2 1, 3) := by decide +kernel
theorem d98_25 : decode (mB 98) 25 = .ok (.iinc 3 1, 3) := by decide +kernel
theorem d98_28 : decode (mB 98) 28 = .ok (.goto (-24), 3) := by decide +kernel
theorem d98_31 : decode (mB 98) 31 = .ok (.iload_n 2, 1) := by decide +kernel
theorem d98_32 : decode (mB 98) 32 = .ok (.ireturn, 1) := by decide +kernel
theorem d82_0 : decode (mB 82) 0 = .ok (.iconst 0, 1) := by decide +kernel
theorem d82_1 : decode (mB 82) 1 = .ok (.istore_n 2, 1) := by decide +kernel
theorem d82_2 : decode (mB 82) 2 = .ok (.iload_n 2, 1) := by decide +kernel
theorem d82_3 : decode (mB 82) 3 = .ok (.aload_n 0, 1) := by decide +kernel
theorem d82_4 : decode (mB 82) 4 = .ok (.getfield 22, 3) := by decide +kernel
theorem d82_7 : decode (mB 82) 7 = .ok (.if_icmp .ge 21, 3) := by decide +kernel
theorem d82_10 : decode (mB 82) 10 = .ok (.aload_n 0, 1) := by decide +kernel
theorem d82_11 : decode (mB 82) 11 = .ok (.getfield 9, 3) := by decide +kernel
theorem d82_14 : decode (mB 82) 14 = .ok (.iload_n 2, 1) := by decide +kernel
theorem d82_15 : decode (mB 82) 15 = .ok (.iaload, 1) := by decide +kernel
theorem d82_16 : decode (mB 82) 16 = .ok (.iload_n 1, 1) := by decide +kernel
theorem d82_17 : decode (mB 82) 17 = .ok (.if_icmp .ne 5, 3) := by decide +kernel
theorem d82_20 : decode (mB 82) 20 = .ok (.iload_n 2, 1) := by decide +kernel
theorem d82_21 : decode (mB 82) 21 = .ok (.ireturn, 1) := by decide +kernel
theorem d82_22 : decode (mB 82) 22 = .ok (.iinc 2 1, 3) := by decide +kernel
theorem d82_25 : decode (mB 82) 25 = .ok (.goto (-23), 3) := by decide +kernel
theorem d82_28 : decode (mB 82) 28 = .ok (.iconst (-1), 1) := by decide +kernel
theorem d82_29 : decode (mB 82) 29 = .ok (.ireturn, 1) := by decide +kernel
theorem d77_0 : decode (mB 77) 0 = .ok (.iconst 0, 1) := by decide +kernel
theorem d77_1 : decode (mB 77) 1 = .ok (.istore_n 2, 1) := by decide +kernel
theorem d77_2 : decode (mB 77) 2 = .ok (.iload_n 2, 1) := by decide +kernel
theorem d77_3 : decode (mB 77) 3 = .ok (.aload_n 0, 1) := by decide +kernel
theorem d77_4 : decode (mB 77) 4 = .ok (.getfield 22, 3) := by decide +kernel
theorem d77_7 : decode (mB 77) 7 = .ok (.if_icmp .ge 21, 3) := by decide +kernel
theorem d77_10 : decode (mB 77) 10 = .ok (.aload_n 0, 1) := by decide +kernel
theorem d77_11 : decode (mB 77) 11 = .ok (.getfield 15, 3) := by decide +kernel
theorem d77_14 : decode (mB 77) 14 = .ok (.iload_n 2, 1) := by decide +kernel
theorem d77_15 : decode (mB 77) 15 = .ok (.iaload, 1) := by decide +kernel
theorem d77_16 : decode (mB 77) 16 = .ok (.iload_n 1, 1) := by decide +kernel
theorem d77_17 : decode (mB 77) 17 = .ok (.if_icmp .ne 5, 3) := by decide +kernel
theorem d77_20 : decode (mB 77) 20 = .ok (.iload_n 2, 1) := by decide +kernel
theorem d77_21 : decode (mB 77) 21 = .ok (.ireturn, 1) := by decide +kernel
theorem d77_22 : decode (mB 77) 22 = .ok (.iinc 2 1, 3) := by decide +kernel
theorem d77_25 : decode (mB 77) 25 = .ok (.goto (-23), 3) := by decide +kernel
theorem d77_28 : decode (mB 77) 28 = .ok (.iconst (-1), 1) := by decide +kernel
theorem d77_29 : decode (mB 77) 29 = .ok (.ireturn, 1) := by decide +kernel
theorem d114_0 : decode (mB 114) 0 = .ok (.aload_n 0, 1) := by decide +kernel
theorem d114_1 : decode (mB 114) 1 = .ok (.aload_n 1, 1) := by decide +kernel
theorem d114_2 : decode (mB 114) 2 = .ok (.getfield 22, 3) := by decide +kernel
theorem d114_5 : decode (mB 114) 5 = .ok (.putfield 22, 3) := by decide +kernel
theorem d114_8 : decode (mB 114) 8 = .ok (.iconst 0, 1) := by decide +kernel
theorem d114_9 : decode (mB 114) 9 = .ok (.istore_n 2, 1) := by decide +kernel
theorem d114_10 : decode (mB 114) 10 = .ok (.iload_n 2, 1) := by decide +kernel
theorem d114_11 : decode (mB 114) 11 = .ok (.aload_n 0, 1) := by decide +kernel
theorem d114_12 : decode (mB 114) 12 = .ok (.getfield 22, 3) := by decide +kernel
theorem d114_15 : decode (mB 114) 15 = .ok (.if_icmp .ge 45, 3) := by decide +kernel
theorem d114_18 : decode (mB 114) 18 = .ok (.aload_n 0, 1) := by decide +kernel
theorem d114_19 : decode (mB 114) 19 = .ok (.getfield 9, 3) := by decide +kernel
theorem d114_22 : decode (mB 114) 22 = .ok (.iload_n 2, 1) := by decide +kernel
theorem d114_23 : decode (mB 114) 23 = .ok (.aload_n 1, 1) := by decide +kernel
theorem d114_24 : decode (mB 114) 24 = .ok (.getfield 9, 3) := by decide +kernel
theorem d114_27 : decode (mB 114) 27 = .ok (.iload_n 2, 1) := by decide +kernel
theorem d114_28 : decode (mB 114) 28 = .ok (.iaload, 1) := by decide +kernel
theorem d114_29 : decode (mB 114) 29 = .ok (.iastore, 1) := by decide +kernel
theorem d114_30 : decode (mB 114) 30 = .ok (.aload_n 0, 1) := by decide +kernel
theorem d114_31 : decode (mB 114) 31 = .ok (.getfield 15, 3) := by decide +kernel
theorem d114_34 : decode (mB 114) 34 = .ok (.iload_n 2, 1) := by decide +kernel
theorem d114_35 : decode (mB 114) 35 = .ok (.aload_n 1, 1) := by decide +kernel
theorem d114_36 : decode (mB 114) 36 = .ok (.getfield 15, 3) := by decide +kernel
theorem d114_39 : decode (mB 114) 39 = .ok (.iload_n 2, 1) := by decide +kernel
theorem d114_40 : decode (mB 114) 40 = .ok (.iaload, 1) := by decide +kernel
theorem d114_41 : decode (mB 114) 41 = .ok (.iastore, 1) := by decide +kernel
theorem d114_42 : decode (mB 114) 42 = .ok (.aload_n 0, 1) := by decide +kernel
theorem d114_43 : decode (mB 114) 43 = .ok (.getfield 18, 3) := by decide +kernel
theorem d114_46 : decode (mB 114) 46 = .ok (.iload_n 2, 1) := by decide +kernel
theorem d114_47 : decode (mB 114) 47 = .ok (.aload_n 1, 1) := by decide +kernel
theorem d114_48 : decode (mB 114) 48 = .ok (.getfield 18, 3) := by decide +kernel
theorem d114_51 : decode (mB 114) 51 = .ok (.iload_n 2, 1) := by decide +kernel
theorem d114_52 : decode (mB 114) 52 = .ok (.laload, 1) := by decide +kernel
theorem d114_53 : decode (mB 114) 53 = .ok (.lastore, 1) := by decide +kernel
theorem d114_54 : decode (mB 114) 54 = .ok (.iinc 2 1, 3) := by decide +kernel
theorem d114_57 : decode (mB 114) 57 = .ok (.goto (-47), 3) := by decide +kernel
theorem d114_60 : decode (mB 114) 60 = .ok (.return_, 1) := by decide +kernel
theorem d3_0 : decode (mB 3) 0 = .ok (.aload_n 0, 1) := by decide +kernel
theorem d3_1 : decode (mB 3) 1 = .ok (.invokespecial 3, 3) := by decide +kernel
theorem d3_4 : decode (mB 3) 4 = .ok (.aload_n 0, 1) := by decide +kernel
theorem d3_5 : decode (mB 3) 5 = .ok (.sipush 801, 3) := by decide +kernel
theorem d3_8 : decode (mB 3) 8 = .ok (.newarray .int, 2) := by decide +kernel
theorem d3_10 : decode (mB 3) 10 = .ok (.putfield 9, 3) := by decide +kernel
theorem d3_13 : decode (mB 3) 13 = .ok (.aload_n 0, 1) := by decide +kernel
theorem d3_14 : decode (mB 3) 14 = .ok (.sipush 801, 3) := by decide +kernel
theorem d3_17 : decode (mB 3) 17 = .ok (.newarray .int, 2) := by decide +kernel
theorem d3_19 : decode (mB 3) 19 = .ok (.putfield 15, 3) := by decide +kernel
theorem d3_22 : decode (mB 3) 22 = .ok (.aload_n 0, 1) := by decide +kernel
theorem d3_23 : decode (mB 3) 23 = .ok (.sipush 801, 3) := by decide +kernel
theorem d3_26 : decode (mB 3) 26 = .ok (.newarray .int, 2) := by decide +kernel
theorem d3_28 : decode (mB 3) 28 = .ok (.putfield 18, 3) := by decide +kernel
theorem d3_31 : decode (mB 3) 31 = .ok (.return_, 1) := by decide +kernel
theorem d15_0 : decode (mB 15) 0 = .ok (.aload_n 0, 1) := by decide +kernel
theorem d15_1 : decode (mB 15) 1 = .ok (.iconst 0, 1) := by decide +kernel
theorem d15_2 : decode (mB 15) 2 = .ok (.putfield 21, 3) := by decide +kernel
theorem d15_5 : decode (mB 15) 5 = .ok (.iconst 0, 1) := by decide +kernel
theorem d15_6 : decode (mB 15) 6 = .ok (.istore_n 3, 1) := by decide +kernel
theorem d15_7 : decode (mB 15) 7 = .ok (.iload_n 3, 1) := by decide +kernel
theorem d15_8 : decode (mB 15) 8 = .ok (.iload_n 2, 1) := by decide +kernel
theorem d15_9 : decode (mB 15) 9 = .ok (.if_icmp .ge 135, 3) := by decide +kernel
theorem d15_12 : decode (mB 15) 12 = .ok (.iload_n 3, 1) := by decide +kernel
theorem d15_13 : decode (mB 15) 13 = .ok (.iconst 1, 1) := by decide +kernel
theorem d15_14 : decode (mB 15) 14 = .ok (.iadd, 1) := by decide +kernel
theorem d15_15 : decode (mB 15) 15 = .ok (.istore 4, 2) := by decide +kernel
theorem d15_17 : decode (mB 15) 17 = .ok (.aload_n 1, 1) := by decide +kernel
theorem d15_18 : decode (mB 15) 18 = .ok (.iload_n 3, 1) := by decide +kernel
theorem d15_19 : decode (mB 15) 19 = .ok (.iaload, 1) := by decide +kernel
theorem d15_20 : decode (mB 15) 20 = .ok (.istore 5, 2) := by decide +kernel
theorem d15_22 : decode (mB 15) 22 = .ok (.iload 5, 2) := by decide +kernel
theorem d15_24 : decode (mB 15) 24 = .ok (.invokestatic 25, 3) := by decide +kernel
theorem d15_27 : decode (mB 15) 27 = .ok (.ifCond .eq 36, 3) := by decide +kernel
theorem d15_30 : decode (mB 15) 30 = .ok (.iload 4, 2) := by decide +kernel
theorem d15_32 : decode (mB 15) 32 = .ok (.iload_n 2, 1) := by decide +kernel
theorem d15_33 : decode (mB 15) 33 = .ok (.if_icmp .ge 19, 3) := by decide +kernel
theorem d15_36 : decode (mB 15) 36 = .ok (.aload_n 1, 1) := by decide +kernel
theorem d15_37 : decode (mB 15) 37 = .ok (.iload 4, 2) := by decide +kernel
theorem d15_39 : decode (mB 15) 39 = .ok (.iaload, 1) := by decide +kernel
theorem d15_40 : decode (mB 15) 40 = .ok (.invokestatic 25, 3) := by decide +kernel
theorem d15_43 : decode (mB 15) 43 = .ok (.ifCond .eq 9, 3) := by decide +kernel
theorem d15_46 : decode (mB 15) 46 = .ok (.iinc 4 1, 3) := by decide +kernel
theorem d15_49 : decode (mB 15) 49 = .ok (.goto (-19), 3) := by decide +kernel
theorem d15_52 : decode (mB 15) 52 = .ok (.aload_n 0, 1) := by decide +kernel
theorem d15_53 : decode (mB 15) 53 = .ok (.aload_n 1, 1) := by decide +kernel
theorem d15_54 : decode (mB 15) 54 = .ok (.iload_n 3, 1) := by decide +kernel
theorem d15_55 : decode (mB 15) 55 = .ok (.iload 4, 2) := by decide +kernel
theorem d15_57 : decode (mB 15) 57 = .ok (.invokevirtual 29, 3) := by decide +kernel
theorem d15_60 : decode (mB 15) 60 = .ok (.goto 78, 3) := by decide +kernel
theorem d15_63 : decode (mB 15) 63 = .ok (.iload 5, 2) := by decide +kernel
theorem d15_65 : decode (mB 15) 65 = .ok (.invokestatic 33, 3) := by decide +kernel
theorem d15_68 : decode (mB 15) 68 = .ok (.ifCond .eq 36, 3) := by decide +kernel
theorem d15_71 : decode (mB 15) 71 = .ok (.iload 4, 2) := by decide +kernel
theorem d15_73 : decode (mB 15) 73 = .ok (.iload_n 2, 1) := by decide +kernel
theorem d15_74 : decode (mB 15) 74 = .ok (.if_icmp .ge 19, 3) := by decide +kernel
theorem d15_77 : decode (mB 15) 77 = .ok (.aload_n 1, 1) := by decide +kernel
theorem d15_78 : decode (mB 15) 78 = .ok (.iload 4, 2) := by decide +kernel
theorem d15_80 : decode (mB 15) 80 = .ok (.iaload, 1) := by decide +kernel
theorem d15_81 : decode (mB 15) 81 = .ok (.invokestatic 33, 3) := by decide +kernel
theorem d15_84 : decode (mB 15) 84 = .ok (.ifCond .eq 9, 3) := by decide +kernel
theorem d15_87 : decode (mB 15) 87 = .ok (.iinc 4 1, 3) := by decide +kernel
theorem d15_90 : decode (mB 15) 90 = .ok (.goto (-19), 3) := by decide +kernel
theorem d15_93 : decode (mB 15) 93 = .ok (.aload_n 0, 1) := by decide +kernel
theorem d15_94 : decode (mB 15) 94 = .ok (.aload_n 1, 1) := by decide +kernel
theorem d15_95 : decode (mB 15) 95 = .ok (.iload_n 3, 1) := by decide +kernel
theorem d15_96 : decode (mB 15) 96 = .ok (.iload 4, 2) := by decide +kernel
theorem d15_98 : decode (mB 15) 98 = .ok (.invokevirtual 36, 3) := by decide +kernel
theorem d15_101 : decode (mB 15) 101 = .ok (.goto 37, 3) := by decide +kernel
theorem d15_104 : decode (mB 15) 104 = .ok (.iload 5, 2) := by decide +kernel
theorem d15_106 : decode (mB 15) 106 = .ok (.bipush 32, 2) := by decide +kernel
theorem d15_108 : decode (mB 15) 108 = .ok (.if_icmp .eq 30, 3) := by decide +kernel
theorem d15_111 : decode (mB 15) 111 = .ok (.iload 5, 2) := by decide +kernel
theorem d15_113 : decode (mB 15) 113 = .ok (.bipush 10, 2) := by decide +kernel
theorem d15_115 : decode (mB 15) 115 = .ok (.if_icmp .eq 23, 3) := by decide +kernel
theorem d15_118 : decode (mB 15) 118 = .ok (.aload_n 0, 1) := by decide +kernel
theorem d15_119 : decode (mB 15) 119 = .ok (.iload 5, 2) := by decide +kernel
theorem d15_121 : decode (mB 15) 121 = .ok (.invokestatic 39, 3) := by decide +kernel
theorem d15_124 : decode (mB 15) 124 = .ok (.ifCond .eq 8, 3) := by decide +kernel
theorem d15_127 : decode (mB 15) 127 = .ok (.iload 5, 2) := by decide +kernel
theorem d15_129 : decode (mB 15) 129 = .ok (.goto 4, 3) := by decide +kernel
theorem d15_132 : decode (mB 15) 132 = .ok (.iconst 1, 1) := by decide +kernel
theorem d15_133 : decode (mB 15) 133 = .ok (.iconst 0, 1) := by decide +kernel
theorem d15_134 : decode (mB 15) 134 = .ok (.iload_n 3, 1) := by decide +kernel
theorem d15_135 : decode (mB 15) 135 = .ok (.invokevirtual 42, 3) := by decide +kernel
theorem d15_138 : decode (mB 15) 138 = .ok (.iload 4, 2) := by decide +kernel
theorem d15_140 : decode (mB 15) 140 = .ok (.istore_n 3, 1) := by decide +kernel
theorem d15_141 : decode (mB 15) 141 = .ok (.goto (-134), 3) := by decide +kernel
theorem d15_144 : decode (mB 15) 144 = .ok (.aload_n 0, 1) := by decide +kernel
theorem d15_145 : decode (mB 15) 145 = .ok (.iconst 0, 1) := by decide +kernel
theorem d15_146 : decode (mB 15) 146 = .ok (.iconst 0, 1) := by decide +kernel
theorem d15_147 : decode (mB 15) 147 = .ok (.iload_n 2, 1) := by decide +kernel
theorem d15_148 : decode (mB 15) 148 = .ok (.invokevirtual 42, 3) := by decide +kernel
theorem d15_151 : decode (mB 15) 151 = .ok (.return_, 1) := by decide +kernel
theorem d29_0 : decode (mB 29) 0 = .ok (.aload_n 0, 1) := by decide +kernel
theorem d29_1 : decode (mB 29) 1 = .ok (.getfield 9, 3) := by decide +kernel
theorem d29_4 : decode (mB 29) 4 = .ok (.aload_n 0, 1) := by decide +kernel
theorem d29_5 : decode (mB 29) 5 = .ok (.getfield 21, 3) := by decide +kernel
theorem d29_8 : decode (mB 29) 8 = .ok (.iload_n 1, 1) := by decide +kernel
theorem d29_9 : decode (mB 29) 9 = .ok (.iastore, 1) := by decide +kernel
theorem d29_10 : decode (mB 29) 10 = .ok (.aload_n 0, 1) := by decide +kernel
theorem d29_11 : decode (mB 29) 11 = .ok (.getfield 15, 3) := by decide +kernel
theorem d29_14 : decode (mB 29) 14 = .ok (.aload_n 0, 1) := by decide +kernel
theorem d29_15 : decode (mB 29) 15 = .ok (.getfield 21, 3) := by decide +kernel
theorem d29_18 : decode (mB 29) 18 = .ok (.iload_n 2, 1) := by decide +kernel
theorem d29_19 : decode (mB 29) 19 = .ok (.iastore, 1) := by decide +kernel
theorem d29_20 : decode (mB 29) 20 = .ok (.aload_n 0, 1) := by decide +kernel
theorem d29_21 : decode (mB 29) 21 = .ok (.getfield 18, 3) := by decide +kernel
theorem d29_24 : decode (mB 29) 24 = .ok (.aload_n 0, 1) := by decide +kernel
theorem d29_25 : decode (mB 29) 25 = .ok (.getfield 21, 3) := by decide +kernel
theorem d29_28 : decode (mB 29) 28 = .ok (.iload_n 3, 1) := by decide +kernel
theorem d29_29 : decode (mB 29) 29 = .ok (.iastore, 1) := by decide +kernel
theorem d29_30 : decode (mB 29) 30 = .ok (.aload_n 0, 1) := by decide +kernel
theorem d29_31 : decode (mB 29) 31 = .ok (.dup, 1) := by decide +kernel
theorem d29_32 : decode (mB 29) 32 = .ok (.getfield 21, 3) := by decide +kernel
theorem d29_35 : decode (mB 29) 35 = .ok (.iconst 1, 1) := by decide +kernel
theorem d29_36 : decode (mB 29) 36 = .ok (.iadd, 1) := by decide +kernel
theorem d29_37 : decode (mB 29) 37 = .ok (.putfield 21, 3) := by decide +kernel
theorem d29_40 : decode (mB 29) 40 = .ok (.return_, 1) := by decide +kernel
theorem d17_0 : decode (mB 17) 0 = .ok (.aload_n 1, 1) := by decide +kernel
theorem d17_1 : decode (mB 17) 1 = .ok (.iload_n 2, 1) := by decide +kernel
theorem d17_2 : decode (mB 17) 2 = .ok (.iaload, 1) := by decide +kernel
theorem d17_3 : decode (mB 17) 3 = .ok (.istore 4, 2) := by decide +kernel
theorem d17_5 : decode (mB 17) 5 = .ok (.iload_n 3, 1) := by decide +kernel
theorem d17_6 : decode (mB 17) 6 = .ok (.iload_n 2, 1) := by decide +kernel
theorem d17_7 : decode (mB 17) 7 = .ok (.isub, 1) := by decide +kernel
theorem d17_8 : decode (mB 17) 8 = .ok (.iconst 1, 1) := by decide +kernel
theorem d17_9 : decode (mB 17) 9 = .ok (.if_icmp .le 18, 3) := by decide +kernel
theorem d17_12 : decode (mB 17) 12 = .ok (.aload_n 0, 1) := by decide +kernel
theorem d17_13 : decode (mB 17) 13 = .ok (.aload_n 1, 1) := by decide +kernel
theorem d17_14 : decode (mB 17) 14 = .ok (.iload_n 2, 1) := by decide +kernel
theorem d17_15 : decode (mB 17) 15 = .ok (.iload_n 3, 1) := by decide +kernel
theorem d17_16 : decode (mB 17) 16 = .ok (.invokestatic 46, 3) := by decide +kernel
theorem d17_19 : decode (mB 17) 19 = .ok (.iconst 0, 1) := by decide +kernel
theorem d17_20 : decode (mB 17) 20 = .ok (.iload_n 2, 1) := by decide +kernel
theorem d17_21 : decode (mB 17) 21 = .ok (.invokevirtual 42, 3) := by decide +kernel
theorem d17_24 : decode (mB 17) 24 = .ok (.goto 52, 3) := by decide +kernel
theorem d17_27 : decode (mB 17) 27 = .ok (.iload 4, 2) := by decide +kernel
theorem d17_29 : decode (mB 17) 29 = .ok (.bipush 104, 2) := by decide +kernel
theorem d17_31 : decode (mB 17) 31 = .ok (.if_icmp .gt 17, 3) := by decide +kernel
theorem d17_34 : decode (mB 17) 34 = .ok (.aload_n 0, 1) := by decide +kernel
theorem d17_35 : decode (mB 17) 35 = .ok (.iconst 3, 1) := by decide +kernel
theorem d17_36 : decode (mB 17) 36 = .ok (.iload 4, 2) := by decide +kernel
theorem d17_38 : decode (mB 17) 38 = .ok (.bipush 97, 2) := by decide +kernel
theorem d17_40 : decode (mB 17) 40 = .ok (.isub, 1) := by decide +kernel
theorem d17_41 : decode (mB 17) 41 = .ok (.iload_n 2, 1) := by decide +kernel
theorem d17_42 : decode (mB 17) 42 = .ok (.invokevirtual 42, 3) := by decide +kernel
theorem d17_45 : decode (mB 17) 45 = .ok (.goto 31, 3) := by decide +kernel
theorem d17_48 : decode (mB 17) 48 = .ok (.iload 4, 2) := by decide +kernel
theorem d17_50 : decode (mB 17) 50 = .ok (.bipush 113, 2) := by decide +kernel
theorem d17_52 : decode (mB 17) 52 = .ok (.if_icmp .lt 17, 3) := by decide +kernel
theorem d17_55 : decode (mB 17) 55 = .ok (.aload_n 0, 1) := by decide +kernel
theorem d17_56 : decode (mB 17) 56 = .ok (.iconst 2, 1) := by decide +kernel
theorem d17_57 : decode (mB 17) 57 = .ok (.iload 4, 2) := by decide +kernel
theorem d17_59 : decode (mB 17) 59 = .ok (.bipush 113, 2) := by decide +kernel
theorem d17_61 : decode (mB 17) 61 = .ok (.isub, 1) := by decide +kernel
theorem d17_62 : decode (mB 17) 62 = .ok (.iload_n 2, 1) := by decide +kernel
theorem d17_63 : decode (mB 17) 63 = .ok (.invokevirtual 42, 3) := by decide +kernel
theorem d17_66 : decode (mB 17) 66 = .ok (.goto 10, 3) := by decide +kernel
theorem d17_69 : decode (mB 17) 69 = .ok (.aload_n 0, 1) := by decide +kernel
theorem d17_70 : decode (mB 17) 70 = .ok (.iconst 1, 1) := by decide +kernel
theorem d17_71 : decode (mB 17) 71 = .ok (.iconst 0, 1) := by decide +kernel
theorem d17_72 : decode (mB 17) 72 = .ok (.iload_n 2, 1) := by decide +kernel
theorem d17_73 : decode (mB 17) 73 = .ok (.invokevirtual 42, 3) := by decide +kernel
theorem d17_76 : decode (mB 17) 76 = .ok (.return_, 1) := by decide +kernel
theorem d31_0 : decode (mB 31) 0 = .ok (.iload_n 3, 1) := by decide +kernel
theorem d31_1 : decode (mB 31) 1 = .ok (.iload_n 2, 1) := by decide +kernel
theorem d31_2 : decode (mB 31) 2 = .ok (.isub, 1) := by decide +kernel
theorem d31_3 : decode (mB 31) 3 = .ok (.bipush 9, 2) := by decide +kernel
theorem d31_5 : decode (mB 31) 5 = .ok (.if_icmp .le 11, 3) := by decide +kernel
theorem d31_8 : decode (mB 31) 8 = .ok (.aload_n 0, 1) := by decide +kernel
theorem d31_9 : decode (mB 31) 9 = .ok (.iconst 1, 1) := by decide +kernel
theorem d31_10 : decode (mB 31) 10 = .ok (.iconst 0, 1) := by decide +kernel
theorem d31_11 : decode (mB 31) 11 = .ok (.iload_n 2, 1) := by decide +kernel
theorem d31_12 : decode (mB 31) 12 = .ok (.invokevirtual 42, 3) := by decide +kernel
theorem d31_15 : decode (mB 31) 15 = .ok (.return_, 1) := by decide +kernel
theorem d31_16 : decode (mB 31) 16 = .ok (.iconst 0, 1) := by decide +kernel
theorem d31_17 : decode (mB 31) 17 = .ok (.istore 4, 2) := by decide +kernel
theorem d31_19 : decode (mB 31) 19 = .ok (.iload_n 2, 1) := by decide +kernel
theorem d31_20 : decode (mB 31) 20 = .ok (.istore 5, 2) := by decide +kernel
theorem d31_22 : decode (mB 31) 22 = .ok (.iload 5, 2) := by decide +kernel
theorem d31_24 : decode (mB 31) 24 = .ok (.iload_n 3, 1) := by decide +kernel
theorem d31_25 : decode (mB 31) 25 = .ok (.if_icmp .ge 24, 3) := by decide +kernel
theorem d31_28 : decode (mB 31) 28 = .ok (.bipush 10, 2) := by decide +kernel
theorem d31_30 : decode (mB 31) 30 = .ok (.iload 4, 2) := by decide +kernel
theorem d31_32 : decode (mB 31) 32 = .ok (.imul, 1) := by decide +kernel
theorem d31_33 : decode (mB 31) 33 = .ok (.aload_n 1, 1) := by decide +kernel
theorem d31_34 : decode (mB 31) 34 = .ok (.iload 5, 2) := by decide +kernel
theorem d31_36 : decode (mB 31) 36 = .ok (.iaload, 1) := by decide +kernel
theorem d31_37 : decode (mB 31) 37 = .ok (.iadd, 1) := by decide +kernel
theorem d31_38 : decode (mB 31) 38 = .ok (.bipush 48, 2) := by decide +kernel
theorem d31_40 : decode (mB 31) 40 = .ok (.isub, 1) := by decide +kernel
theorem d31_41 : decode (mB 31) 41 = .ok (.istore 4, 2) := by decide +kernel
theorem d31_43 : decode (mB 31) 43 = .ok (.iinc 5 1, 3) := by decide +kernel
theorem d31_46 : decode (mB 31) 46 = .ok (.goto (-24), 3) := by decide +kernel
theorem d31_49 : decode (mB 31) 49 = .ok (.aload_n 0, 1) := by decide +kernel
theorem d31_50 : decode (mB 31) 50 = .ok (.iconst 4, 1) := by decide +kernel
theorem d31_51 : decode (mB 31) 51 = .ok (.iload 4, 2) := by decide +kernel
theorem d31_53 : decode (mB 31) 53 = .ok (.iload_n 2, 1) := by decide +kernel
theorem d31_54 : decode (mB 31) 54 = .ok (.invokevirtual 42, 3) := by decide +kernel
theorem d31_57 : decode (mB 31) 57 = .ok (.return_, 1) := by decide +kernel
theorem d18_0 : decode (mB 18) 0 = .ok (.iload_n 2, 1) := by decide +kernel
theorem d18_1 : decode (mB 18) 1 = .ok (.iload_n 1, 1) := by decide +kernel
theorem d18_2 : decode (mB 18) 2 = .ok (.isub, 1) := by decide +kernel
theorem d18_3 : decode (mB 18) 3 = .ok (.bipush 6, 2) := by decide +kernel
theorem d18_5 : decode (mB 18) 5 = .ok (.if_icmp .le 5, 3) := by decide +kernel
theorem d18_8 : decode (mB 18) 8 = .ok (.iconst 1, 1) := by decide +kernel
theorem d18_9 : decode (mB 18) 9 = .ok (.ireturn, 1) := by decide +kernel
theorem d18_10 : decode (mB 18) 10 = .ok (.iconst 0, 1) := by decide +kernel
theorem d18_11 : decode (mB 18) 11 = .ok (.istore_n 3, 1) := by decide +kernel
theorem d18_12 : decode (mB 18) 12 = .ok (.iload_n 3, 1) := by decide +kernel
theorem d18_13 : decode (mB 18) 13 = .ok (.bipush 19, 2) := by decide +kernel
theorem d18_15 : decode (mB 18) 15 = .ok (.if_icmp .ge 26, 3) := by decide +kernel
theorem d18_18 : decode (mB 18) 18 = .ok (.iload_n 3, 1) := by decide +kernel
theorem d18_19 : decode (mB 18) 19 = .ok (.bipush 6, 2) := by decide +kernel
theorem d18_21 : decode (mB 18) 21 = .ok (.imul, 1) := by decide +kernel
theorem d18_22 : decode (mB 18) 22 = .ok (.aload_n 0, 1) := by decide +kernel
theorem d18_23 : decode (mB 18) 23 = .ok (.iload_n 1, 1) := by decide +kernel
theorem d18_24 : decode (mB 18) 24 = .ok (.iload_n 2, 1) := by decide +kernel
theorem d18_25 : decode (mB 18) 25 = .ok (.invokestatic 50, 3) := by decide +kernel
theorem d18_28 : decode (mB 18) 28 = .ok (.ifCond .eq 7, 3) := by decide +kernel
theorem d18_31 : decode (mB 18) 31 = .ok (.iconst 5, 1) := by decide +kernel
theorem d18_32 : decode (mB 18) 32 = .ok (.iload_n 3, 1) := by decide +kernel
theorem d18_33 : decode (mB 18) 33 = .ok (.iadd, 1) := by decide +kernel
theorem d18_34 : decode (mB 18) 34 = .ok (.ireturn, 1) := by decide +kernel
theorem d18_35 : decode (mB 18) 35 = .ok (.iinc 3 1, 3) := by decide +kernel
theorem d18_38 : decode (mB 18) 38 = .ok (.goto (-26), 3) := by decide +kernel
theorem d18_41 : decode (mB 18) 41 = .ok (.iconst 1, 1) := by decide +kernel
theorem d18_42 : decode (mB 18) 42 = .ok (.ireturn, 1) := by decide +kernel
theorem d19_0 : decode (mB 19) 0 = .ok (.iconst 0, 1) := by decide +kernel
theorem d19_1 : decode (mB 19) 1 = .ok (.istore 4, 2) := by decide +kernel
theorem d19_3 : decode (mB 19) 3 = .ok (.iload 4, 2) := by decide +kernel
theorem d19_5 : decode (mB 19) 5 = .ok (.bipush 6, 2) := by decide +kernel
theorem d19_7 : decode (mB 19) 7 = .ok (.if_icmp .ge 46, 3) := by decide +kernel
theorem d19_10 : decode (mB 19) 10 = .ok (.iload_n 2, 1) := by decide +kernel
theorem d19_11 : decode (mB 19) 11 = .ok (.iload 4, 2) := by decide +kernel
theorem d19_13 : decode (mB 19) 13 = .ok (.iadd, 1) := by decide +kernel
theorem d19_14 : decode (mB 19) 14 = .ok (.iload_n 3, 1) := by decide +kernel
theorem d19_15 : decode (mB 19) 15 = .ok (.if_icmp .ge 12, 3) := by decide +kernel
theorem d19_18 : decode (mB 19) 18 = .ok (.aload_n 1, 1) := by decide +kernel
theorem d19_19 : decode (mB 19) 19 = .ok (.iload_n 2, 1) := by decide +kernel
theorem d19_20 : decode (mB 19) 20 = .ok (.iload 4, 2) := by decide +kernel
theorem d19_22 : decode (mB 19) 22 = .ok (.iadd, 1) := by decide +kernel
theorem d19_23 : decode (mB 19) 23 = .ok (.iaload, 1) := by decide +kernel
theorem d19_24 : decode (mB 19) 24 = .ok (.goto 5, 3) := by decide +kernel
theorem d19_27 : decode (mB 19) 27 = .ok (.bipush 32, 2) := by decide +kernel
theorem d19_29 : decode (mB 19) 29 = .ok (.istore 5, 2) := by decide +kernel
theorem d19_31 : decode (mB 19) 31 = .ok (.ldc 54, 2) := by decide +kernel
theorem d19_33 : decode (mB 19) 33 = .ok (.iload_n 0, 1) := by decide +kernel
theorem d19_34 : decode (mB 19) 34 = .ok (.iload 4, 2) := by decide +kernel
theorem d19_36 : decode (mB 19) 36 = .ok (.iadd, 1) := by decide +kernel
theorem d19_37 : decode (mB 19) 37 = .ok (.invokevirtual 56, 3) := by decide +kernel
theorem d19_40 : decode (mB 19) 40 = .ok (.iload 5, 2) := by decide +kernel
theorem d19_42 : decode (mB 19) 42 = .ok (.if_icmp .eq 5, 3) := by decide +kernel
theorem d19_45 : decode (mB 19) 45 = .ok (.iconst 0, 1) := by decide +kernel
theorem d19_46 : decode (mB 19) 46 = .ok (.ireturn, 1) := by decide +kernel
theorem d19_47 : decode (mB 19) 47 = .ok (.iinc 4 1, 3) := by decide +kernel
theorem d19_50 : decode (mB 19) 50 = .ok (.goto (-47), 3) := by decide +kernel
theorem d19_53 : decode (mB 19) 53 = .ok (.iconst 1, 1) := by decide +kernel
theorem d19_54 : decode (mB 19) 54 = .ok (.ireturn, 1) := by decide +kernel
theorem d16_0 : decode (mB 16) 0 = .ok (.iload_n 0, 1) := by decide +kernel
theorem d16_1 : decode (mB 16) 1 = .ok (.bipush 97, 2) := by decide +kernel
theorem d16_3 : decode (mB 16) 3 = .ok (.if_icmp .lt 13, 3) := by decide +kernel
theorem d16_6 : decode (mB 16) 6 = .ok (.iload_n 0, 1) := by decide +kernel
theorem d16_7 : decode (mB 16) 7 = .ok (.bipush 122, 2) := by decide +kernel
theorem d16_9 : decode (mB 16) 9 = .ok (.if_icmp .gt 7, 3) := by decide +kernel
theorem d16_12 : decode (mB 16) 12 = .ok (.iconst 1, 1) := by decide +kernel
theorem d16_13 : decode (mB 16) 13 = .ok (.goto 4, 3) := by decide +kernel
theorem d16_16 : decode (mB 16) 16 = .ok (.iconst 0, 1) := by decide +kernel
theorem d16_17 : decode (mB 16) 17 = .ok (.ireturn, 1) := by decide +kernel
theorem d30_0 : decode (mB 30) 0 = .ok (.iload_n 0, 1) := by decide +kernel
theorem d30_1 : decode (mB 30) 1 = .ok (.bipush 48, 2) := by decide +kernel
theorem d30_3 : decode (mB 30) 3 = .ok (.if_icmp .lt 13, 3) := by decide +kernel
theorem d30_6 : decode (mB 30) 6 = .ok (.iload_n 0, 1) := by decide +kernel
theorem d30_7 : decode (mB 30) 7 = .ok (.bipush 57, 2) := by decide +kernel
theorem d30_9 : decode (mB 30) 9 = .ok (.if_icmp .gt 7, 3) := by decide +kernel
theorem d30_12 : decode (mB 30) 12 = .ok (.iconst 1, 1) := by decide +kernel
theorem d30_13 : decode (mB 30) 13 = .ok (.goto 4, 3) := by decide +kernel
theorem d30_16 : decode (mB 30) 16 = .ok (.iconst 0, 1) := by decide +kernel
theorem d30_17 : decode (mB 30) 17 = .ok (.ireturn, 1) := by decide +kernel
theorem d32_0 : decode (mB 32) 0 = .ok (.iconst 0, 1) := by decide +kernel
theorem d32_1 : decode (mB 32) 1 = .ok (.istore_n 1, 1) := by decide +kernel
theorem d32_2 : decode (mB 32) 2 = .ok (.iload_n 1, 1) := by decide +kernel
theorem d32_3 : decode (mB 32) 3 = .ok (.ldc 62, 2) := by decide +kernel
theorem d32_5 : decode (mB 32) 5 = .ok (.invokevirtual 64, 3) := by decide +kernel
theorem d32_8 : decode (mB 32) 8 = .ok (.if_icmp .ge 21, 3) := by decide +kernel
theorem d32_11 : decode (mB 32) 11 = .ok (.ldc 62, 2) := by decide +kernel
theorem d32_13 : decode (mB 32) 13 = .ok (.iload_n 1, 1) := by decide +kernel
theorem d32_14 : decode (mB 32) 14 = .ok (.invokevirtual 56, 3) := by decide +kernel
theorem d32_17 : decode (mB 32) 17 = .ok (.iload_n 0, 1) := by decide +kernel
theorem d32_18 : decode (mB 32) 18 = .ok (.if_icmp .ne 5, 3) := by decide +kernel
theorem d32_21 : decode (mB 32) 21 = .ok (.iconst 1, 1) := by decide +kernel
theorem d32_22 : decode (mB 32) 22 = .ok (.ireturn, 1) := by decide +kernel
theorem d32_23 : decode (mB 32) 23 = .ok (.iinc 1 1, 3) := by decide +kernel
theorem d32_26 : decode (mB 32) 26 = .ok (.goto (-24), 3) := by decide +kernel
theorem d32_29 : decode (mB 32) 29 = .ok (.iconst 0, 1) := by decide +kernel
theorem d32_30 : decode (mB 32) 30 = .ok (.ireturn, 1) := by decide +kernel
theorem d5_0 : decode (mB 5) 0 = .ok (.aload_n 0, 1) := by decide +kernel
theorem d5_1 : decode (mB 5) 1 = .ok (.invokespecial 3, 3) := by decide +kernel
theorem d5_4 : decode (mB 5) 4 = .ok (.aload_n 0, 1) := by decide +kernel
theorem d5_5 : decode (mB 5) 5 = .ok (.bipush 8, 2) := by decide +kernel
theorem d5_7 : decode (mB 5) 7 = .ok (.newarray .boolean, 2) := by decide +kernel
theorem d5_9 : decode (mB 5) 9 = .ok (.putfield 9, 3) := by decide +kernel
theorem d5_12 : decode (mB 5) 12 = .ok (.aload_n 0, 1) := by decide +kernel
theorem d5_13 : decode (mB 5) 13 = .ok (.bipush 8, 2) := by decide +kernel
theorem d5_15 : decode (mB 5) 15 = .ok (.newarray .long, 2) := by decide +kernel
theorem d5_17 : decode (mB 5) 17 = .ok (.putfield 15, 3) := by decide +kernel
theorem d5_20 : decode (mB 5) 20 = .ok (.new 19, 3) := by decide +kernel
theorem d5_23 : decode (mB 5) 23 = .ok (.dup, 1) := by decide +kernel
theorem d5_24 : decode (mB 5) 24 = .ok (.sipush 400, 3) := by decide +kernel
theorem d5_27 : decode (mB 5) 27 = .ok (.invokespecial 21, 3) := by decide +kernel
theorem d5_30 : decode (mB 5) 30 = .ok (.astore_n 1, 1) := by decide +kernel
theorem d5_31 : decode (mB 5) 31 = .ok (.new 24, 3) := by decide +kernel
theorem d5_34 : decode (mB 5) 34 = .ok (.dup, 1) := by decide +kernel
theorem d5_35 : decode (mB 5) 35 = .ok (.invokespecial 26, 3) := by decide +kernel
theorem d5_38 : decode (mB 5) 38 = .ok (.astore_n 2, 1) := by decide +kernel
theorem d5_39 : decode (mB 5) 39 = .ok (.bipush 6, 2) := by decide +kernel
theorem d5_41 : decode (mB 5) 41 = .ok (.anewarray 27, 3) := by decide +kernel
theorem d5_44 : decode (mB 5) 44 = .ok (.astore_n 3, 1) := by decide +kernel
theorem d5_45 : decode (mB 5) 45 = .ok (.iconst 0, 1) := by decide +kernel
theorem d5_46 : decode (mB 5) 46 = .ok (.istore 4, 2) := by decide +kernel
theorem d5_48 : decode (mB 5) 48 = .ok (.iload 4, 2) := by decide +kernel
theorem d5_50 : decode (mB 5) 50 = .ok (.bipush 6, 2) := by decide +kernel
theorem d5_52 : decode (mB 5) 52 = .ok (.if_icmp .ge 24, 3) := by decide +kernel
theorem d5_55 : decode (mB 5) 55 = .ok (.aload_n 3, 1) := by decide +kernel
theorem d5_56 : decode (mB 5) 56 = .ok (.iload 4, 2) := by decide +kernel
theorem d5_58 : decode (mB 5) 58 = .ok (.new 27, 3) := by decide +kernel
theorem d5_61 : decode (mB 5) 61 = .ok (.dup, 1) := by decide +kernel
theorem d5_62 : decode (mB 5) 62 = .ok (.iload 4, 2) := by decide +kernel
theorem d5_64 : decode (mB 5) 64 = .ok (.aload_n 1, 1) := by decide +kernel
theorem d5_65 : decode (mB 5) 65 = .ok (.aload_n 2, 1) := by decide +kernel
theorem d5_66 : decode (mB 5) 66 = .ok (.invokespecial 29, 3) := by decide +kernel
theorem d5_69 : decode (mB 5) 69 = .ok (.aastore, 1) := by decide +kernel
theorem d5_70 : decode (mB 5) 70 = .ok (.iinc 4 1, 3) := by decide +kernel
theorem d5_73 : decode (mB 5) 73 = .ok (.goto (-25), 3) := by decide +kernel
theorem d5_76 : decode (mB 5) 76 = .ok (.aload_n 0, 1) := by decide +kernel
theorem d5_77 : decode (mB 5) 77 = .ok (.aload_n 1, 1) := by decide +kernel
theorem d5_78 : decode (mB 5) 78 = .ok (.putfield 32, 3) := by decide +kernel
theorem d5_81 : decode (mB 5) 81 = .ok (.aload_n 0, 1) := by decide +kernel
theorem d5_82 : decode (mB 5) 82 = .ok (.aload_n 3, 1) := by decide +kernel
theorem d5_83 : decode (mB 5) 83 = .ok (.putfield 36, 3) := by decide +kernel
theorem d5_86 : decode (mB 5) 86 = .ok (.aload_n 0, 1) := by decide +kernel
theorem d5_87 : decode (mB 5) 87 = .ok (.new 27, 3) := by decide +kernel
theorem d5_90 : decode (mB 5) 90 = .ok (.dup, 1) := by decide +kernel
theorem d5_91 : decode (mB 5) 91 = .ok (.iconst (-1), 1) := by decide +kernel
theorem d5_92 : decode (mB 5) 92 = .ok (.new 19, 3) := by decide +kernel
theorem d5_95 : decode (mB 5) 95 = .ok (.dup, 1) := by decide +kernel
theorem d5_96 : decode (mB 5) 96 = .ok (.iconst 0, 1) := by decide +kernel
theorem d5_97 : decode (mB 5) 97 = .ok (.invokespecial 21, 3) := by decide +kernel
theorem d5_100 : decode (mB 5) 100 = .ok (.aload_n 2, 1) := by decide +kernel
theorem d5_101 : decode (mB 5) 101 = .ok (.invokespecial 29, 3) := by decide +kernel
theorem d5_104 : decode (mB 5) 104 = .ok (.putfield 40, 3) := by decide +kernel
theorem d5_107 : decode (mB 5) 107 = .ok (.return_, 1) := by decide +kernel
theorem d122_0 : decode (mB 122) 0 = .ok (.aload_n 0, 1) := by decide +kernel
theorem d122_1 : decode (mB 122) 1 = .ok (.getfield 32, 3) := by decide +kernel
theorem d122_4 : decode (mB 122) 4 = .ok (.iconst 0, 1) := by decide +kernel
theorem d122_5 : decode (mB 122) 5 = .ok (.putfield 44, 3) := by decide +kernel
theorem d122_8 : decode (mB 122) 8 = .ok (.aload_n 0, 1) := by decide +kernel
theorem d122_9 : decode (mB 122) 9 = .ok (.getfield 32, 3) := by decide +kernel
theorem d122_12 : decode (mB 122) 12 = .ok (.iconst 0, 1) := by decide +kernel
theorem d122_13 : decode (mB 122) 13 = .ok (.putfield 48, 3) := by decide +kernel
theorem d122_16 : decode (mB 122) 16 = .ok (.iconst 0, 1) := by decide +kernel
theorem d122_17 : decode (mB 122) 17 = .ok (.istore_n 1, 1) := by decide +kernel
theorem d122_18 : decode (mB 122) 18 = .ok (.iload_n 1, 1) := by decide +kernel
theorem d122_19 : decode (mB 122) 19 = .ok (.bipush 6, 2) := by decide +kernel
theorem d122_21 : decode (mB 122) 21 = .ok (.if_icmp .ge 18, 3) := by decide +kernel
theorem d122_24 : decode (mB 122) 24 = .ok (.aload_n 0, 1) := by decide +kernel
theorem d122_25 : decode (mB 122) 25 = .ok (.getfield 36, 3) := by decide +kernel
theorem d122_28 : decode (mB 122) 28 = .ok (.iload_n 1, 1) := by decide +kernel
theorem d122_29 : decode (mB 122) 29 = .ok (.aaload, 1) := by decide +kernel
theorem d122_30 : decode (mB 122) 30 = .ok (.invokevirtual 51, 3) := by decide +kernel
theorem d122_33 : decode (mB 122) 33 = .ok (.iinc 1 1, 3) := by decide +kernel
theorem d122_36 : decode (mB 122) 36 = .ok (.goto (-18), 3) := by decide +kernel
theorem d122_39 : decode (mB 122) 39 = .ok (.iconst 0, 1) := by decide +kernel
theorem d122_40 : decode (mB 122) 40 = .ok (.istore_n 1, 1) := by decide +kernel
theorem d122_41 : decode (mB 122) 41 = .ok (.iload_n 1, 1) := by decide +kernel
theorem d122_42 : decode (mB 122) 42 = .ok (.bipush 8, 2) := by decide +kernel
theorem d122_44 : decode (mB 122) 44 = .ok (.if_icmp .ge 16, 3) := by decide +kernel
theorem d122_47 : decode (mB 122) 47 = .ok (.aload_n 0, 1) := by decide +kernel
theorem d122_48 : decode (mB 122) 48 = .ok (.getfield 9, 3) := by decide +kernel
theorem d122_51 : decode (mB 122) 51 = .ok (.iload_n 1, 1) := by decide +kernel
theorem d122_52 : decode (mB 122) 52 = .ok (.iconst 0, 1) := by decide +kernel
theorem d122_53 : decode (mB 122) 53 = .ok (.bastore, 1) := by decide +kernel
theorem d122_54 : decode (mB 122) 54 = .ok (.iinc 1 1, 3) := by decide +kernel
theorem d122_57 : decode (mB 122) 57 = .ok (.goto (-16), 3) := by decide +kernel
theorem d122_60 : decode (mB 122) 60 = .ok (.return_, 1) := by decide +kernel
theorem d65_0 : decode (mB 65) 0 = .ok (.aload_n 0, 1) := by decide +kernel
theorem d65_1 : decode (mB 65) 1 = .ok (.getfield 32, 3) := by decide +kernel
theorem d65_4 : decode (mB 65) 4 = .ok (.dup, 1) := by decide +kernel
theorem d65_5 : decode (mB 65) 5 = .ok (.getfield 44, 3) := by decide +kernel
theorem d65_8 : decode (mB 65) 8 = .ok (.iconst 1, 1) := by decide +kernel
theorem d65_9 : decode (mB 65) 9 = .ok (.iadd, 1) := by decide +kernel
theorem d65_10 : decode (mB 65) 10 = .ok (.putfield 44, 3) := by decide +kernel
theorem d65_13 : decode (mB 65) 13 = .ok (.iconst 0, 1) := by decide +kernel
theorem d65_14 : decode (mB 65) 14 = .ok (.istore_n 2, 1) := by decide +kernel
theorem d65_15 : decode (mB 65) 15 = .ok (.iload_n 2, 1) := by decide +kernel
theorem d65_16 : decode (mB 65) 16 = .ok (.bipush 6, 2) := by decide +kernel
theorem d65_18 : decode (mB 65) 18 = .ok (.if_icmp .ge 18, 3) := by decide +kernel
theorem d65_21 : decode (mB 65) 21 = .ok (.aload_n 0, 1) := by decide +kernel
theorem d65_22 : decode (mB 65) 22 = .ok (.getfield 36, 3) := by decide +kernel
theorem d65_25 : decode (mB 65) 25 = .ok (.iload_n 2, 1) := by decide +kernel
theorem d65_26 : decode (mB 65) 26 = .ok (.aaload, 1) := by decide +kernel
theorem d65_27 : decode (mB 65) 27 = .ok (.invokevirtual 54, 3) := by decide +kernel
theorem d65_30 : decode (mB 65) 30 = .ok (.iinc 2 1, 3) := by decide +kernel
theorem d65_33 : decode (mB 65) 33 = .ok (.goto (-18), 3) := by decide +kernel
theorem d65_36 : decode (mB 65) 36 = .ok (.aload_n 0, 1) := by decide +kernel
theorem d65_37 : decode (mB 65) 37 = .ok (.aload_n 1, 1) := by decide +kernel
theorem d65_38 : decode (mB 65) 38 = .ok (.invokevirtual 57, 3) := by decide +kernel
theorem d65_41 : decode (mB 65) 41 = .ok (.istore_n 2, 1) := by decide +kernel
theorem d65_42 : decode (mB 65) 42 = .ok (.iload_n 2, 1) := by decide +kernel
theorem d65_43 : decode (mB 65) 43 = .ok (.iconst 5, 1) := by decide +kernel
theorem d65_44 : decode (mB 65) 44 = .ok (.if_icmp .ne 8, 3) := by decide +kernel
theorem d65_47 : decode (mB 65) 47 = .ok (.aload_n 1, 1) := by decide +kernel
theorem d65_48 : decode (mB 65) 48 = .ok (.invokevirtual 61, 3) := by decide +kernel
theorem d65_51 : decode (mB 65) 51 = .ok (.istore_n 2, 1) := by decide +kernel
theorem d65_52 : decode (mB 65) 52 = .ok (.iload_n 2, 1) := by decide +kernel
theorem d65_53 : decode (mB 65) 53 = .ok (.iconst 4, 1) := by decide +kernel
theorem d65_54 : decode (mB 65) 54 = .ok (.if_icmp .eq 13, 3) := by decide +kernel
theorem d65_57 : decode (mB 65) 57 = .ok (.aload_n 1, 1) := by decide +kernel
theorem d65_58 : decode (mB 65) 58 = .ok (.dup, 1) := by decide +kernel
theorem d65_59 : decode (mB 65) 59 = .ok (.getfield 65, 3) := by decide +kernel
theorem d65_62 : decode (mB 65) 62 = .ok (.iconst 1, 1) := by decide +kernel
theorem d65_63 : decode (mB 65) 63 = .ok (.iadd, 1) := by decide +kernel
theorem d65_64 : decode (mB 65) 64 = .ok (.putfield 65, 3) := by decide +kernel
theorem d65_67 : decode (mB 65) 67 = .ok (.iload_n 2, 1) := by decide +kernel
theorem d65_68 : decode (mB 65) 68 = .ok (.ireturn, 1) := by decide +kernel
theorem d68_0 : decode (mB 68) 0 = .ok (.aload_n 1, 1) := by decide +kernel
theorem d68_1 : decode (mB 68) 1 = .ok (.invokevirtual 68, 3) := by decide +kernel
theorem d68_4 : decode (mB 68) 4 = .ok (.ifCond .eq 5, 3) := by decide +kernel
theorem d68_7 : decode (mB 68) 7 = .ok (.iconst 5, 1) := by decide +kernel
theorem d68_8 : decode (mB 68) 8 = .ok (.ireturn, 1) := by decide +kernel
theorem d68_9 : decode (mB 68) 9 = .ok (.aload_n 1, 1) := by decide +kernel
theorem d68_10 : decode (mB 68) 10 = .ok (.getfield 72, 3) := by decide +kernel
theorem d68_13 : decode (mB 68) 13 = .ok (.ifCond .ne 19, 3) := by decide +kernel
theorem d68_16 : decode (mB 68) 16 = .ok (.aload_n 1, 1) := by decide +kernel
theorem d68_17 : decode (mB 68) 17 = .ok (.getfield 75, 3) := by decide +kernel
theorem d68_20 : decode (mB 68) 20 = .ok (.getfield 79, 3) := by decide +kernel
theorem d68_23 : decode (mB 68) 23 = .ok (.ifCond .le 9, 3) := by decide +kernel
theorem d68_26 : decode (mB 68) 26 = .ok (.aload_n 0, 1) := by decide +kernel
theorem d68_27 : decode (mB 68) 27 = .ok (.aload_n 1, 1) := by decide +kernel
theorem d68_28 : decode (mB 68) 28 = .ok (.invokevirtual 82, 3) := by decide +kernel
theorem d68_31 : decode (mB 68) 31 = .ok (.ireturn, 1) := by decide +kernel
theorem d68_32 : decode (mB 68) 32 = .ok (.aload_n 1, 1) := by decide +kernel
theorem d68_33 : decode (mB 68) 33 = .ok (.invokevirtual 85, 3) := by decide +kernel
theorem d68_36 : decode (mB 68) 36 = .ok (.iconst (-1), 1) := by decide +kernel
theorem d68_37 : decode (mB 68) 37 = .ok (.if_icmp .ne 8, 3) := by decide +kernel
theorem d68_40 : decode (mB 68) 40 = .ok (.aload_n 1, 1) := by decide +kernel
theorem d68_41 : decode (mB 68) 41 = .ok (.invokevirtual 88, 3) := by decide +kernel
theorem d68_44 : decode (mB 68) 44 = .ok (.ireturn, 1) := by decide +kernel
theorem d68_45 : decode (mB 68) 45 = .ok (.aload_n 0, 1) := by decide +kernel
theorem d68_46 : decode (mB 68) 46 = .ok (.aload_n 1, 1) := by decide +kernel
theorem d68_47 : decode (mB 68) 47 = .ok (.aload_n 1, 1) := by decide +kernel
theorem d68_48 : decode (mB 68) 48 = .ok (.invokevirtual 85, 3) := by decide +kernel
theorem d68_51 : decode (mB 68) 51 = .ok (.invokevirtual 91, 3) := by decide +kernel
theorem d68_54 : decode (mB 68) 54 = .ok (.istore_n 2, 1) := by decide +kernel
theorem d68_55 : decode (mB 68) 55 = .ok (.iload_n 2, 1) := by decide +kernel
theorem d68_56 : decode (mB 68) 56 = .ok (.iconst 4, 1) := by decide +kernel
theorem d68_57 : decode (mB 68) 57 = .ok (.if_icmp .ne 27, 3) := by decide +kernel
theorem d68_60 : decode (mB 68) 60 = .ok (.aload_n 1, 1) := by decide +kernel
theorem d68_61 : decode (mB 68) 61 = .ok (.getfield 72, 3) := by decide +kernel
theorem d68_64 : decode (mB 68) 64 = .ok (.iconst 1, 1) := by decide +kernel
theorem d68_65 : decode (mB 68) 65 = .ok (.if_icmp .ne 19, 3) := by decide +kernel
theorem d68_68 : decode (mB 68) 68 = .ok (.aload_n 1, 1) := by decide +kernel
theorem d68_69 : decode (mB 68) 69 = .ok (.getfield 75, 3) := by decide +kernel
theorem d68_72 : decode (mB 68) 72 = .ok (.getfield 79, 3) := by decide +kernel
theorem d68_75 : decode (mB 68) 75 = .ok (.ifCond .le 9, 3) := by decide +kernel
theorem d68_78 : decode (mB 68) 78 = .ok (.aload_n 0, 1) := by decide +kernel
theorem d68_79 : decode (mB 68) 79 = .ok (.aload_n 1, 1) := by decide +kernel
theorem d68_80 : decode (mB 68) 80 = .ok (.invokevirtual 82, 3) := by decide +kernel
theorem d68_83 : decode (mB 68) 83 = .ok (.ireturn, 1) := by decide +kernel
theorem d68_84 : decode (mB 68) 84 = .ok (.iload_n 2, 1) := by decide +kernel
theorem d68_85 : decode (mB 68) 85 = .ok (.ireturn, 1) := by decide +kernel
theorem d80_0 : decode (mB 80) 0 = .ok (.aload_n 0, 1) := by decide +kernel
theorem d80_1 : decode (mB 80) 1 = .ok (.aload_n 1, 1) := by decide +kernel
theorem d80_2 : decode (mB 80) 2 = .ok (.invokevirtual 95, 3) := by decide +kernel
theorem d80_5 : decode (mB 80) 5 = .ok (.aload_n 1, 1) := by decide +kernel
theorem d80_6 : decode (mB 80) 6 = .ok (.getfield 75, 3) := by decide +kernel
theorem d80_9 : decode (mB 80) 9 = .ok (.astore_n 2, 1) := by decide +kernel
theorem d80_10 : decode (mB 80) 10 = .ok (.aload_n 1, 1) := by decide +kernel
theorem d80_11 : decode (mB 80) 11 = .ok (.aload_n 2, 1) := by decide +kernel
theorem d80_12 : decode (mB 80) 12 = .ok (.getfield 99, 3) := by decide +kernel
theorem d80_15 : decode (mB 80) 15 = .ok (.iconst 0, 1) := by decide +kernel
theorem d80_16 : decode (mB 80) 16 = .ok (.laload, 1) := by decide +kernel
theorem d80_17 : decode (mB 80) 17 = .ok (.putfield 102, 3) := by decide +kernel
theorem d80_20 : decode (mB 80) 20 = .ok (.aload_n 1, 1) := by decide +kernel
theorem d80_21 : decode (mB 80) 21 = .ok (.aload_n 2, 1) := by decide +kernel
theorem d80_22 : decode (mB 80) 22 = .ok (.getfield 106, 3) := by decide +kernel
theorem d80_25 : decode (mB 80) 25 = .ok (.iconst 0, 1) := by decide +kernel
theorem d80_26 : decode (mB 80) 26 = .ok (.iaload, 1) := by decide +kernel
theorem d80_27 : decode (mB 80) 27 = .ok (.putfield 110, 3) := by decide +kernel
theorem d80_30 : decode (mB 80) 30 = .ok (.aload_n 2, 1) := by decide +kernel
theorem d80_31 : decode (mB 80) 31 = .ok (.iconst 0, 1) := by decide +kernel
theorem d80_32 : decode (mB 80) 32 = .ok (.invokevirtual 113, 3) := by decide +kernel
theorem d80_35 : decode (mB 80) 35 = .ok (.aload_n 0, 1) := by decide +kernel
theorem d80_36 : decode (mB 80) 36 = .ok (.getfield 32, 3) := by decide +kernel
theorem d80_39 : decode (mB 80) 39 = .ok (.iconst 1, 1) := by decide +kernel
theorem d80_40 : decode (mB 80) 40 = .ok (.aload_n 1, 1) := by decide +kernel
theorem d80_41 : decode (mB 80) 41 = .ok (.getfield 116, 3) := by decide +kernel
theorem d80_44 : decode (mB 80) 44 = .ok (.aload_n 1, 1) := by decide +kernel
theorem d80_45 : decode (mB 80) 45 = .ok (.getfield 102, 3) := by decide +kernel
theorem d80_48 : decode (mB 80) 48 = .ok (.invokevirtual 119, 3) := by decide +kernel
theorem d80_51 : decode (mB 80) 51 = .ok (.iconst 5, 1) := by decide +kernel
theorem d80_52 : decode (mB 80) 52 = .ok (.ireturn, 1) := by decide +kernel
theorem d81_0 : decode (mB 81) 0 = .ok (.aload_n 1, 1) := by decide +kernel
theorem d81_1 : decode (mB 81) 1 = .ok (.getfield 123, 3) := by decide +kernel
theorem d81_4 : decode (mB 81) 4 = .ok (.iconst (-1), 1) := by decide +kernel
theorem d81_5 : decode (mB 81) 5 = .ok (.if_icmp .eq 33, 3) := by decide +kernel
theorem d81_8 : decode (mB 81) 8 = .ok (.aload_n 0, 1) := by decide +kernel
theorem d81_9 : decode (mB 81) 9 = .ok (.getfield 36, 3) := by decide +kernel
theorem d81_12 : decode (mB 81) 12 = .ok (.aload_n 1, 1) := by decide +kernel
theorem d81_13 : decode (mB 81) 13 = .ok (.getfield 123, 3) := by decide +kernel
theorem d81_16 : decode (mB 81) 16 = .ok (.aaload, 1) := by decide +kernel
theorem d81_17 : decode (mB 81) 17 = .ok (.getfield 75, 3) := by decide +kernel
theorem d81_20 : decode (mB 81) 20 = .ok (.astore_n 2, 1) := by decide +kernel
theorem d81_21 : decode (mB 81) 21 = .ok (.aload_n 2, 1) := by decide +kernel
theorem d81_22 : decode (mB 81) 22 = .ok (.aload_n 2, 1) := by decide +kernel
theorem d81_23 : decode (mB 81) 23 = .ok (.aload_n 1, 1) := by decide +kernel
theorem d81_24 : decode (mB 81) 24 = .ok (.getfield 116, 3) := by decide +kernel
theorem d81_27 : decode (mB 81) 27 = .ok (.invokevirtual 126, 3) := by decide +kernel
theorem d81_30 : decode (mB 81) 30 = .ok (.invokevirtual 113, 3) := by decide +kernel
theorem d81_33 : decode (mB 81) 33 = .ok (.aload_n 1, 1) := by decide +kernel
theorem d81_34 : decode (mB 81) 34 = .ok (.iconst (-1), 1) := by decide +kernel
theorem d81_35 : decode (mB 81) 35 = .ok (.putfield 123, 3) := by decide +kernel
theorem d81_38 : decode (mB 81) 38 = .ok (.return_, 1) := by decide +kernel
theorem d84_0 : decode (mB 84) 0 = .ok (.aload_n 1, 1) := by decide +kernel
theorem d84_1 : decode (mB 84) 1 = .ok (.getfield 130, 3) := by decide +kernel
theorem d84_4 : decode (mB 84) 4 = .ok (.astore_n 3, 1) := by decide +kernel
theorem d84_5 : decode (mB 84) 5 = .ok (.aload_n 3, 1) := by decide +kernel
theorem d84_6 : decode (mB 84) 6 = .ok (.getfield 134, 3) := by decide +kernel
theorem d84_9 : decode (mB 84) 9 = .ok (.iload_n 2, 1) := by decide +kernel
theorem d84_10 : decode (mB 84) 10 = .ok (.iaload, 1) := by decide +kernel
theorem d84_11 : decode (mB 84) 11 = .ok (.tableswitch 254 2 20 #[89, 254, 254, 114, 140, 254, 168, 199, 254, 206, 254, 213, 219, 226, 240, 247, 254, 254, 226], 89) := by decide +kernel
theorem d84_100 : decode (mB 84) 100 = .ok (.aload_n 1, 1) := by decide +kernel
theorem d84_101 : decode (mB 84) 101 = .ok (.getfield 137, 3) := by decide +kernel
theorem d84_104 : decode (mB 84) 104 = .ok (.aload_n 3, 1) := by decide +kernel
theorem d84_105 : decode (mB 84) 105 = .ok (.getfield 140, 3) := by decide +kernel
theorem d84_108 : decode (mB 84) 108 = .ok (.iload_n 2, 1) := by decide +kernel
theorem d84_109 : decode (mB 84) 109 = .ok (.iaload, 1) := by decide +kernel
theorem d84_110 : decode (mB 84) 110 = .ok (.aload_n 3, 1) := by decide +kernel
theorem d84_111 : decode (mB 84) 111 = .ok (.iload_n 2, 1) := by decide +kernel
theorem d84_112 : decode (mB 84) 112 = .ok (.aload_n 1, 1) := by decide +kernel
theorem d84_113 : decode (mB 84) 113 = .ok (.getfield 137, 3) := by decide +kernel
theorem d84_116 : decode (mB 84) 116 = .ok (.invokevirtual 143, 3) := by decide +kernel
theorem d84_119 : decode (mB 84) 119 = .ok (.lastore, 1) := by decide +kernel
theorem d84_120 : decode (mB 84) 120 = .ok (.aload_n 1, 1) := by decide +kernel
theorem d84_121 : decode (mB 84) 121 = .ok (.invokevirtual 147, 3) := by decide +kernel
theorem d84_124 : decode (mB 84) 124 = .ok (.ireturn, 1) := by decide +kernel
theorem d84_125 : decode (mB 84) 125 = .ok (.aload_n 0, 1) := by decide +kernel
theorem d84_126 : decode (mB 84) 126 = .ok (.getfield 32, 3) := by decide +kernel
theorem d84_129 : decode (mB 84) 129 = .ok (.iconst 0, 1) := by decide +kernel
theorem d84_130 : decode (mB 84) 130 = .ok (.aload_n 1, 1) := by decide +kernel
theorem d84_131 : decode (mB 84) 131 = .ok (.getfield 116, 3) := by decide +kernel
theorem d84_134 : decode (mB 84) 134 = .ok (.aload_n 3, 1) := by decide +kernel
theorem d84_135 : decode (mB 84) 135 = .ok (.iload_n 2, 1) := by decide +kernel
theorem d84_136 : decode (mB 84) 136 = .ok (.aload_n 1, 1) := by decide +kernel
theorem d84_137 : decode (mB 84) 137 = .ok (.getfield 137, 3) := by decide +kernel
theorem d84_140 : decode (mB 84) 140 = .ok (.invokevirtual 143, 3) := by decide +kernel
theorem d84_143 : decode (mB 84) 143 = .ok (.invokevirtual 119, 3) := by decide +kernel
theorem d84_146 : decode (mB 84) 146 = .ok (.aload_n 1, 1) := by decide +kernel
theorem d84_147 : decode (mB 84) 147 = .ok (.invokevirtual 147, 3) := by decide +kernel
theorem d84_150 : decode (mB 84) 150 = .ok (.ireturn, 1) := by decide +kernel
theorem d84_151 : decode (mB 84) 151 = .ok (.aload_n 1, 1) := by decide +kernel
theorem d84_152 : decode (mB 84) 152 = .ok (.aload_n 3, 1) := by decide +kernel
theorem d84_153 : decode (mB 84) 153 = .ok (.iload_n 2, 1) := by decide +kernel
theorem d84_154 : decode (mB 84) 154 = .ok (.aload_n 1, 1) := by decide +kernel
theorem d84_155 : decode (mB 84) 155 = .ok (.getfield 137, 3) := by decide +kernel
theorem d84_158 : decode (mB 84) 158 = .ok (.invokevirtual 143, 3) := by decide +kernel
theorem d84_161 : decode (mB 84) 161 = .ok (.lconst 0, 1) := by decide +kernel
theorem d84_162 : decode (mB 84) 162 = .ok (.lcmp, 1) := by decide +kernel
theorem d84_163 : decode (mB 84) 163 = .ok (.ifCond .eq 7, 3) := by decide +kernel
theorem d84_166 : decode (mB 84) 166 = .ok (.iconst 0, 1) := by decide +kernel
theorem d84_167 : decode (mB 84) 167 = .ok (.goto 4, 3) := by decide +kernel
theorem d84_170 : decode (mB 84) 170 = .ok (.iconst 1, 1) := by decide +kernel
theorem d84_171 : decode (mB 84) 171 = .ok (.aload_n 1, 1) := by decide +kernel
theorem d84_172 : decode (mB 84) 172 = .ok (.getfield 72, 3) := by decide +kernel
theorem d84_175 : decode (mB 84) 175 = .ok (.invokevirtual 150, 3) := by decide +kernel
theorem d84_178 : decode (mB 84) 178 = .ok (.ireturn, 1) := by decide +kernel
theorem d84_179 : decode (mB 84) 179 = .ok (.aload_n 3, 1) := by decide +kernel
theorem d84_180 : decode (mB 84) 180 = .ok (.iload_n 2, 1) := by decide +kernel
theorem d84_181 : decode (mB 84) 181 = .ok (.aload_n 1, 1) := by decide +kernel
theorem d84_182 : decode (mB 84) 182 = .ok (.getfield 137, 3) := by decide +kernel
theorem d84_185 : decode (mB 84) 185 = .ok (.invokevirtual 143, 3) := by decide +kernel
theorem d84_188 : decode (mB 84) 188 = .ok (.lconst 0, 1) := by decide +kernel
theorem d84_189 : decode (mB 84) 189 = .ok (.lcmp, 1) := by decide +kernel
theorem d84_190 : decode (mB 84) 190 = .ok (.ifCond .eq 15, 3) := by decide +kernel
theorem d84_193 : decode (mB 84) 193 = .ok (.aload_n 1, 1) := by decide +kernel
theorem d84_194 : decode (mB 84) 194 = .ok (.iconst 0, 1) := by decide +kernel
theorem d84_195 : decode (mB 84) 195 = .ok (.aload_n 1, 1) := by decide +kernel
theorem d84_196 : decode (mB 84) 196 = .ok (.getfield 72, 3) := by decide +kernel
theorem d84_199 : decode (mB 84) 199 = .ok (.invokevirtual 150, 3) := by decide +kernel
theorem d84_202 : decode (mB 84) 202 = .ok (.goto 7, 3) := by decide +kernel
theorem d84_205 : decode (mB 84) 205 = .ok (.aload_n 1, 1) := by decide +kernel
theorem d84_206 : decode (mB 84) 206 = .ok (.invokevirtual 147, 3) := by decide +kernel
theorem d84_209 : decode (mB 84) 209 = .ok (.ireturn, 1) := by decide +kernel
theorem d84_210 : decode (mB 84) 210 = .ok (.aload_n 0, 1) := by decide +kernel
theorem d84_211 : decode (mB 84) 211 = .ok (.aload_n 1, 1) := by decide +kernel
theorem d84_212 : decode (mB 84) 212 = .ok (.iload_n 2, 1) := by decide +kernel
theorem d84_213 : decode (mB 84) 213 = .ok (.invokevirtual 154, 3) := by decide +kernel
theorem d84_216 : decode (mB 84) 216 = .ok (.ireturn, 1) := by decide +kernel
theorem d84_217 : decode (mB 84) 217 = .ok (.aload_n 0, 1) := by decide +kernel
theorem d84_218 : decode (mB 84) 218 = .ok (.aload_n 1, 1) := by decide +kernel
theorem d84_219 : decode (mB 84) 219 = .ok (.iload_n 2, 1) := by decide +kernel
theorem d84_220 : decode (mB 84) 220 = .ok (.invokevirtual 157, 3) := by decide +kernel
theorem d84_223 : decode (mB 84) 223 = .ok (.ireturn, 1) := by decide +kernel
theorem d84_224 : decode (mB 84) 224 = .ok (.aload_n 1, 1) := by decide +kernel
theorem d84_225 : decode (mB 84) 225 = .ok (.iload_n 2, 1) := by decide +kernel
theorem d84_226 : decode (mB 84) 226 = .ok (.invokestatic 160, 3) := by decide +kernel
theorem d84_229 : decode (mB 84) 229 = .ok (.ireturn, 1) := by decide +kernel
theorem d84_230 : decode (mB 84) 230 = .ok (.aload_n 0, 1) := by decide +kernel
theorem d84_231 : decode (mB 84) 231 = .ok (.aload_n 1, 1) := by decide +kernel
theorem d84_232 : decode (mB 84) 232 = .ok (.iload_n 2, 1) := by decide +kernel
theorem d84_233 : decode (mB 84) 233 = .ok (.invokevirtual 163, 3) := by decide +kernel
theorem d84_236 : decode (mB 84) 236 = .ok (.ireturn, 1) := by decide +kernel
theorem d84_237 : decode (mB 84) 237 = .ok (.aload_n 1, 1) := by decide +kernel
theorem d84_238 : decode (mB 84) 238 = .ok (.iconst 0, 1) := by decide +kernel
theorem d84_239 : decode (mB 84) 239 = .ok (.aload_n 1, 1) := by decide +kernel
theorem d84_240 : decode (mB 84) 240 = .ok (.getfield 72, 3) := by decide +kernel
theorem d84_243 : decode (mB 84) 243 = .ok (.iconst 1, 1) := by decide +kernel
theorem d84_244 : decode (mB 84) 244 = .ok (.invokestatic 166, 3) := by decide +kernel
theorem d84_247 : decode (mB 84) 247 = .ok (.invokevirtual 150, 3) := by decide +kernel
theorem d84_250 : decode (mB 84) 250 = .ok (.ireturn, 1) := by decide +kernel
theorem d84_251 : decode (mB 84) 251 = .ok (.aload_n 1, 1) := by decide +kernel
theorem d84_252 : decode (mB 84) 252 = .ok (.iconst 0, 1) := by decide +kernel
theorem d84_253 : decode (mB 84) 253 = .ok (.iconst 2, 1) := by decide +kernel
theorem d84_254 : decode (mB 84) 254 = .ok (.invokevirtual 150, 3) := by decide +kernel
theorem d84_257 : decode (mB 84) 257 = .ok (.ireturn, 1) := by decide +kernel
theorem d84_258 : decode (mB 84) 258 = .ok (.aload_n 1, 1) := by decide +kernel
theorem d84_259 : decode (mB 84) 259 = .ok (.iconst 0, 1) := by decide +kernel
theorem d84_260 : decode (mB 84) 260 = .ok (.iconst 0, 1) := by decide +kernel
theorem d84_261 : decode (mB 84) 261 = .ok (.invokevirtual 150, 3) := by decide +kernel
theorem d84_264 : decode (mB 84) 264 = .ok (.ireturn, 1) := by decide +kernel
theorem d84_265 : decode (mB 84) 265 = .ok (.aload_n 1, 1) := by decide +kernel
theorem d84_266 : decode (mB 84) 266 = .ok (.iconst 0, 1) := by decide +kernel
theorem d84_267 : decode (mB 84) 267 = .ok (.aload_n 1, 1) := by decide +kernel
theorem d84_268 : decode (mB 84) 268 = .ok (.getfield 72, 3) := by decide +kernel
theorem d84_271 : decode (mB 84) 271 = .ok (.invokevirtual 150, 3) := by decide +kernel
theorem d84_274 : decode (mB 84) 274 = .ok (.ireturn, 1) := by decide +kernel
theorem d88_0 : decode (mB 88) 0 = .ok (.aload_n 0, 1) := by decide +kernel
theorem d88_1 : decode (mB 88) 1 = .ok (.aload_n 1, 1) := by decide +kernel
theorem d88_2 : decode (mB 88) 2 = .ok (.iload_n 2, 1) := by decide +kernel
theorem d88_3 : decode (mB 88) 3 = .ok (.invokevirtual 171, 3) := by decide +kernel
theorem d88_6 : decode (mB 88) 6 = .ok (.ifCond .eq 5, 3) := by decide +kernel
theorem d88_9 : decode (mB 88) 9 = .ok (.iconst 4, 1) := by decide +kernel
theorem d88_10 : decode (mB 88) 10 = .ok (.ireturn, 1) := by decide +kernel
theorem d88_11 : decode (mB 88) 11 = .ok (.aload_n 1, 1) := by decide +kernel
theorem d88_12 : decode (mB 88) 12 = .ok (.getfield 130, 3) := by decide +kernel
theorem d88_15 : decode (mB 88) 15 = .ok (.getfield 175, 3) := by decide +kernel
theorem d88_18 : decode (mB 88) 18 = .ok (.iload_n 2, 1) := by decide +kernel
theorem d88_19 : decode (mB 88) 19 = .ok (.iaload, 1) := by decide +kernel
theorem d88_20 : decode (mB 88) 20 = .ok (.istore_n 3, 1) := by decide +kernel
theorem d88_21 : decode (mB 88) 21 = .ok (.aload_n 0, 1) := by decide +kernel
theorem d88_22 : decode (mB 88) 22 = .ok (.getfield 9, 3) := by decide +kernel
theorem d88_25 : decode (mB 88) 25 = .ok (.iload_n 3, 1) := by decide +kernel
theorem d88_26 : decode (mB 88) 26 = .ok (.iconst 0, 1) := by decide +kernel
theorem d88_27 : decode (mB 88) 27 = .ok (.bastore, 1) := by decide +kernel
theorem d88_28 : decode (mB 88) 28 = .ok (.aload_n 1, 1) := by decide +kernel
theorem d88_29 : decode (mB 88) 29 = .ok (.getfield 137, 3) := by decide +kernel
theorem d88_32 : decode (mB 88) 32 = .ok (.aload_n 1, 1) := by decide +kernel
theorem d88_33 : decode (mB 88) 33 = .ok (.getfield 130, 3) := by decide +kernel
theorem d88_36 : decode (mB 88) 36 = .ok (.getfield 140, 3) := by decide +kernel
theorem d88_39 : decode (mB 88) 39 = .ok (.iload_n 2, 1) := by decide +kernel
theorem d88_40 : decode (mB 88) 40 = .ok (.iaload, 1) := by decide +kernel
theorem d88_41 : decode (mB 88) 41 = .ok (.aload_n 0, 1) := by decide +kernel
theorem d88_42 : decode (mB 88) 42 = .ok (.getfield 15, 3) := by decide +kernel
theorem d88_45 : decode (mB 88) 45 = .ok (.iload_n 3, 1) := by decide +kernel
theorem d88_46 : decode (mB 88) 46 = .ok (.laload, 1) := by decide +kernel
theorem d88_47 : decode (mB 88) 47 = .ok (.lastore, 1) := by decide +kernel
theorem d88_48 : decode (mB 88) 48 = .ok (.aload_n 1, 1) := by decide +kernel
theorem d88_49 : decode (mB 88) 49 = .ok (.invokevirtual 147, 3) := by decide +kernel
theorem d88_52 : decode (mB 88) 52 = .ok (.ireturn, 1) := by decide +kernel
theorem d90_0 : decode (mB 90) 0 = .ok (.aload_n 0, 1) := by decide +kernel
theorem d90_1 : decode (mB 90) 1 = .ok (.aload_n 1, 1) := by decide +kernel
theorem d90_2 : decode (mB 90) 2 = .ok (.iload_n 2, 1) := by decide +kernel
theorem d90_3 : decode (mB 90) 3 = .ok (.invokevirtual 171, 3) := by decide +kernel
theorem d90_6 : decode (mB 90) 6 = .ok (.ifCond .eq 5, 3) := by decide +kernel
theorem d90_9 : decode (mB 90) 9 = .ok (.iconst 4, 1) := by decide +kernel
theorem d90_10 : decode (mB 90) 10 = .ok (.ireturn, 1) := by decide +kernel
theorem d90_11 : decode (mB 90) 11 = .ok (.aload_n 1, 1) := by decide +kernel
theorem d90_12 : decode (mB 90) 12 = .ok (.getfield 130, 3) := by decide +kernel
theorem d90_15 : decode (mB 90) 15 = .ok (.getfield 175, 3) := by decide +kernel
theorem d90_18 : decode (mB 90) 18 = .ok (.iload_n 2, 1) := by decide +kernel
theorem d90_19 : decode (mB 90) 19 = .ok (.iaload, 1) := by decide +kernel
theorem d90_20 : decode (mB 90) 20 = .ok (.istore_n 3, 1) := by decide +kernel
theorem d90_21 : decode (mB 90) 21 = .ok (.aload_n 0, 1) := by decide +kernel
theorem d90_22 : decode (mB 90) 22 = .ok (.getfield 9, 3) := by decide +kernel
theorem d90_25 : decode (mB 90) 25 = .ok (.iload_n 3, 1) := by decide +kernel
theorem d90_26 : decode (mB 90) 26 = .ok (.iconst 1, 1) := by decide +kernel
theorem d90_27 : decode (mB 90) 27 = .ok (.bastore, 1) := by decide +kernel
theorem d90_28 : decode (mB 90) 28 = .ok (.aload_n 0, 1) := by decide +kernel
theorem d90_29 : decode (mB 90) 29 = .ok (.getfield 15, 3) := by decide +kernel
theorem d90_32 : decode (mB 90) 32 = .ok (.iload_n 3, 1) := by decide +kernel
theorem d90_33 : decode (mB 90) 33 = .ok (.aload_n 1, 1) := by decide +kernel
theorem d90_34 : decode (mB 90) 34 = .ok (.getfield 130, 3) := by decide +kernel
theorem d90_37 : decode (mB 90) 37 = .ok (.iload_n 2, 1) := by decide +kernel
theorem d90_38 : decode (mB 90) 38 = .ok (.aload_n 1, 1) := by decide +kernel
theorem d90_39 : decode (mB 90) 39 = .ok (.getfield 137, 3) := by decide +kernel
theorem d90_42 : decode (mB 90) 42 = .ok (.invokevirtual 143, 3) := by decide +kernel
theorem d90_45 : decode (mB 90) 45 = .ok (.lastore, 1) := by decide +kernel
theorem d90_46 : decode (mB 90) 46 = .ok (.aload_n 1, 1) := by decide +kernel
theorem d90_47 : decode (mB 90) 47 = .ok (.invokevirtual 147, 3) := by decide +kernel
theorem d90_50 : decode (mB 90) 50 = .ok (.ireturn, 1) := by decide +kernel
theorem d91_0 : decode (mB 91) 0 = .ok (.aload_n 0, 1) := by decide +kernel
theorem d91_1 : decode (mB 91) 1 = .ok (.aload_n 0, 1) := by decide +kernel
theorem d91_2 : decode (mB 91) 2 = .ok (.getfield 130, 3) := by decide +kernel
theorem d91_5 : decode (mB 91) 5 = .ok (.iload_n 1, 1) := by decide +kernel
theorem d91_6 : decode (mB 91) 6 = .ok (.aload_n 0, 1) := by decide +kernel
theorem d91_7 : decode (mB 91) 7 = .ok (.getfield 137, 3) := by decide +kernel
theorem d91_10 : decode (mB 91) 10 = .ok (.invokevirtual 143, 3) := by decide +kernel
theorem d91_13 : decode (mB 91) 13 = .ok (.putfield 102, 3) := by decide +kernel
theorem d91_16 : decode (mB 91) 16 = .ok (.aload_n 0, 1) := by decide +kernel
theorem d91_17 : decode (mB 91) 17 = .ok (.iconst 0, 1) := by decide +kernel
theorem d91_18 : decode (mB 91) 18 = .ok (.putfield 110, 3) := by decide +kernel
theorem d91_21 : decode (mB 91) 21 = .ok (.iconst 5, 1) := by decide +kernel
theorem d91_22 : decode (mB 91) 22 = .ok (.ireturn, 1) := by decide +kernel
theorem d92_0 : decode (mB 92) 0 = .ok (.aload_n 1, 1) := by decide +kernel
theorem d92_1 : decode (mB 92) 1 = .ok (.getfield 130, 3) := by decide +kernel
theorem d92_4 : decode (mB 92) 4 = .ok (.getfield 175, 3) := by decide +kernel
theorem d92_7 : decode (mB 92) 7 = .ok (.iload_n 2, 1) := by decide +kernel
theorem d92_8 : decode (mB 92) 8 = .ok (.iaload, 1) := by decide +kernel
theorem d92_9 : decode (mB 92) 9 = .ok (.istore_n 3, 1) := by decide +kernel
theorem d92_10 : decode (mB 92) 10 = .ok (.iload_n 3, 1) := by decide +kernel
theorem d92_11 : decode (mB 92) 11 = .ok (.aload_n 1, 1) := by decide +kernel
theorem d92_12 : decode (mB 92) 12 = .ok (.getfield 116, 3) := by decide +kernel
theorem d92_15 : decode (mB 92) 15 = .ok (.if_icmp .ne 9, 3) := by decide +kernel
theorem d92_18 : decode (mB 92) 18 = .ok (.aload_n 1, 1) := by decide +kernel
theorem d92_19 : decode (mB 92) 19 = .ok (.iload_n 2, 1) := by decide +kernel
theorem d92_20 : decode (mB 92) 20 = .ok (.invokestatic 160, 3) := by decide +kernel
theorem d92_23 : decode (mB 92) 23 = .ok (.ireturn, 1) := by decide +kernel
theorem d92_24 : decode (mB 92) 24 = .ok (.aload_n 0, 1) := by decide +kernel
theorem d92_25 : decode (mB 92) 25 = .ok (.aload_n 1, 1) := by decide +kernel
theorem d92_26 : decode (mB 92) 26 = .ok (.iload_n 2, 1) := by decide +kernel
theorem d92_27 : decode (mB 92) 27 = .ok (.invokevirtual 171, 3) := by decide +kernel
theorem d92_30 : decode (mB 92) 30 = .ok (.ifCond .ne 13, 3) := by decide +kernel
theorem d92_33 : decode (mB 92) 33 = .ok (.aload_n 1, 1) := by decide +kernel
theorem d92_34 : decode (mB 92) 34 = .ok (.iconst (-1), 1) := by decide +kernel
theorem d92_35 : decode (mB 92) 35 = .ok (.putfield 123, 3) := by decide +kernel
theorem d92_38 : decode (mB 92) 38 = .ok (.aload_n 1, 1) := by decide +kernel
theorem d92_39 : decode (mB 92) 39 = .ok (.invokevirtual 147, 3) := by decide +kernel
theorem d92_42 : decode (mB 92) 42 = .ok (.ireturn, 1) := by decide +kernel
theorem d92_43 : decode (mB 92) 43 = .ok (.aload_n 1, 1) := by decide +kernel
theorem d92_44 : decode (mB 92) 44 = .ok (.getfield 123, 3) := by decide +kernel
theorem d92_47 : decode (mB 92) 47 = .ok (.iconst (-1), 1) := by decide +kernel
theorem d92_48 : decode (mB 92) 48 = .ok (.if_icmp .ne 37, 3) := by decide +kernel
theorem d92_51 : decode (mB 92) 51 = .ok (.aload_n 1, 1) := by decide +kernel
theorem d92_52 : decode (mB 92) 52 = .ok (.iload_n 3, 1) := by decide +kernel
theorem d92_53 : decode (mB 92) 53 = .ok (.putfield 123, 3) := by decide +kernel
theorem d92_56 : decode (mB 92) 56 = .ok (.aload_n 0, 1) := by decide +kernel
theorem d92_57 : decode (mB 92) 57 = .ok (.getfield 36, 3) := by decide +kernel
theorem d92_60 : decode (mB 92) 60 = .ok (.iload_n 3, 1) := by decide +kernel
theorem d92_61 : decode (mB 92) 61 = .ok (.aaload, 1) := by decide +kernel
theorem d92_62 : decode (mB 92) 62 = .ok (.getfield 75, 3) := by decide +kernel
theorem d92_65 : decode (mB 92) 65 = .ok (.aload_n 1, 1) := by decide +kernel
theorem d92_66 : decode (mB 92) 66 = .ok (.getfield 116, 3) := by decide +kernel
theorem d92_69 : decode (mB 92) 69 = .ok (.iconst 0, 1) := by decide +kernel
theorem d92_70 : decode (mB 92) 70 = .ok (.aload_n 1, 1) := by decide +kernel
theorem d92_71 : decode (mB 92) 71 = .ok (.getfield 130, 3) := by decide +kernel
theorem d92_74 : decode (mB 92) 74 = .ok (.iload_n 2, 1) := by decide +kernel
theorem d92_75 : decode (mB 92) 75 = .ok (.aload_n 1, 1) := by decide +kernel
theorem d92_76 : decode (mB 92) 76 = .ok (.getfield 137, 3) := by decide +kernel
theorem d92_79 : decode (mB 92) 79 = .ok (.invokevirtual 143, 3) := by decide +kernel
theorem d92_82 : decode (mB 92) 82 = .ok (.invokevirtual 178, 3) := by decide +kernel
theorem d92_85 : decode (mB 92) 85 = .ok (.iconst 4, 1) := by decide +kernel
theorem d92_86 : decode (mB 92) 86 = .ok (.ireturn, 1) := by decide +kernel
theorem d89_0 : decode (mB 89) 0 = .ok (.aload_n 1, 1) := by decide +kernel
theorem d89_1 : decode (mB 89) 1 = .ok (.getfield 130, 3) := by decide +kernel
theorem d89_4 : decode (mB 89) 4 = .ok (.getfield 175, 3) := by decide +kernel
theorem d89_7 : decode (mB 89) 7 = .ok (.iload_n 2, 1) := by decide +kernel
theorem d89_8 : decode (mB 89) 8 = .ok (.iaload, 1) := by decide +kernel
theorem d89_9 : decode (mB 89) 9 = .ok (.istore_n 3, 1) := by decide +kernel
theorem d89_10 : decode (mB 89) 10 = .ok (.aload_n 1, 1) := by decide +kernel
theorem d89_11 : decode (mB 89) 11 = .ok (.getfield 130, 3) := by decide +kernel
theorem d89_14 : decode (mB 89) 14 = .ok (.getfield 134, 3) := by decide +kernel
theorem d89_17 : decode (mB 89) 17 = .ok (.iload_n 2, 1) := by decide +kernel
theorem d89_18 : decode (mB 89) 18 = .ok (.iaload, 1) := by decide +kernel
theorem d89_19 : decode (mB 89) 19 = .ok (.lookupswitch 118 #[(9, 33), (11, 48), (14, 55)], 33) := by decide +kernel
theorem d89_52 : decode (mB 89) 52 = .ok (.aload_n 0, 1) := by decide +kernel
theorem d89_53 : decode (mB 89) 53 = .ok (.getfield 9, 3) := by decide +kernel
theorem d89_56 : decode (mB 89) 56 = .ok (.iload_n 3, 1) := by decide +kernel
theorem d89_57 : decode (mB 89) 57 = .ok (.baload, 1) := by decide +kernel
theorem d89_58 : decode (mB 89) 58 = .ok (.ifCond .ne 7, 3) := by decide +kernel
theorem d89_61 : decode (mB 89) 61 = .ok (.iconst 1, 1) := by decide +kernel
theorem d89_62 : decode (mB 89) 62 = .ok (.goto 4, 3) := by decide +kernel
theorem d89_65 : decode (mB 89) 65 = .ok (.iconst 0, 1) := by decide +kernel
theorem d89_66 : decode (mB 89) 66 = .ok (.ireturn, 1) := by decide +kernel
theorem d89_67 : decode (mB 89) 67 = .ok (.aload_n 0, 1) := by decide +kernel
theorem d89_68 : decode (mB 89) 68 = .ok (.getfield 9, 3) := by decide +kernel
theorem d89_71 : decode (mB 89) 71 = .ok (.iload_n 3, 1) := by decide +kernel
theorem d89_72 : decode (mB 89) 72 = .ok (.baload, 1) := by decide +kernel
theorem d89_73 : decode (mB 89) 73 = .ok (.ireturn, 1) := by decide +kernel
theorem d89_74 : decode (mB 89) 74 = .ok (.aload_n 1, 1) := by decide +kernel
theorem d89_75 : decode (mB 89) 75 = .ok (.getfield 123, 3) := by decide +kernel
theorem d89_78 : decode (mB 89) 78 = .ok (.iconst (-1), 1) := by decide +kernel
theorem d89_79 : decode (mB 89) 79 = .ok (.if_icmp .eq 31, 3) := by decide +kernel
theorem d89_82 : decode (mB 89) 82 = .ok (.aload_n 0, 1) := by decide +kernel
theorem d89_83 : decode (mB 89) 83 = .ok (.getfield 36, 3) := by decide +kernel
theorem d89_86 : decode (mB 89) 86 = .ok (.iload_n 3, 1) := by decide +kernel
theorem d89_87 : decode (mB 89) 87 = .ok (.aaload, 1) := by decide +kernel
theorem d89_88 : decode (mB 89) 88 = .ok (.getfield 75, 3) := by decide +kernel
theorem d89_91 : decode (mB 89) 91 = .ok (.aload_n 1, 1) := by decide +kernel
theorem d89_92 : decode (mB 89) 92 = .ok (.getfield 116, 3) := by decide +kernel
theorem d89_95 : decode (mB 89) 95 = .ok (.invokevirtual 126, 3) := by decide +kernel
theorem d89_98 : decode (mB 89) 98 = .ok (.iconst (-1), 1) := by decide +kernel
theorem d89_99 : decode (mB 89) 99 = .ok (.if_icmp .eq 7, 3) := by decide +kernel
theorem d89_102 : decode (mB 89) 102 = .ok (.iconst 1, 1) := by decide +kernel
theorem d89_103 : decode (mB 89) 103 = .ok (.goto 33, 3) := by decide +kernel
theorem d89_106 : decode (mB 89) 106 = .ok (.iconst 0, 1) := by decide +kernel
theorem d89_107 : decode (mB 89) 107 = .ok (.goto 29, 3) := by decide +kernel
theorem d89_110 : decode (mB 89) 110 = .ok (.iload_n 3, 1) := by decide +kernel
theorem d89_111 : decode (mB 89) 111 = .ok (.aload_n 1, 1) := by decide +kernel
theorem d89_112 : decode (mB 89) 112 = .ok (.getfield 116, 3) := by decide +kernel
theorem d89_115 : decode (mB 89) 115 = .ok (.if_icmp .eq 20, 3) := by decide +kernel
theorem d89_118 : decode (mB 89) 118 = .ok (.aload_n 0, 1) := by decide +kernel
theorem d89_119 : decode (mB 89) 119 = .ok (.getfield 36, 3) := by decide +kernel
theorem d89_122 : decode (mB 89) 122 = .ok (.iload_n 3, 1) := by decide +kernel
theorem d89_123 : decode (mB 89) 123 = .ok (.aaload, 1) := by decide +kernel
theorem d89_124 : decode (mB 89) 124 = .ok (.getfield 181, 3) := by decide +kernel
theorem d89_127 : decode (mB 89) 127 = .ok (.iconst 1, 1) := by decide +kernel
theorem d89_128 : decode (mB 89) 128 = .ok (.if_icmp .ne 7, 3) := by decide +kernel
theorem d89_131 : decode (mB 89) 131 = .ok (.iconst 1, 1) := by decide +kernel
theorem d89_132 : decode (mB 89) 132 = .ok (.goto 4, 3) := by decide +kernel
theorem d89_135 : decode (mB 89) 135 = .ok (.iconst 0, 1) := by decide +kernel
theorem d89_136 : decode (mB 89) 136 = .ok (.ireturn, 1) := by decide +kernel
theorem d89_137 : decode (mB 89) 137 = .ok (.iconst 0, 1) := by decide +kernel
theorem d89_138 : decode (mB 89) 138 = .ok (.ireturn, 1) := by decide +kernel
theorem d111_0 : decode (mB 111) 0 = .ok (.iconst 0, 1) := by decide +kernel
theorem d111_1 : decode (mB 111) 1 = .ok (.istore_n 1, 1) := by decide +kernel
theorem d111_2 : decode (mB 111) 2 = .ok (.iload_n 1, 1) := by decide +kernel
theorem d111_3 : decode (mB 111) 3 = .ok (.bipush 6, 2) := by decide +kernel
theorem d111_5 : decode (mB 111) 5 = .ok (.if_icmp .ge 37, 3) := by decide +kernel
theorem d111_8 : decode (mB 111) 8 = .ok (.aload_n 0, 1) := by decide +kernel
theorem d111_9 : decode (mB 111) 9 = .ok (.getfield 36, 3) := by decide +kernel
theorem d111_12 : decode (mB 111) 12 = .ok (.iload_n 1, 1) := by decide +kernel
theorem d111_13 : decode (mB 111) 13 = .ok (.aaload, 1) := by decide +kernel
theorem d111_14 : decode (mB 111) 14 = .ok (.getfield 181, 3) := by decide +kernel
theorem d111_17 : decode (mB 111) 17 = .ok (.iconst 1, 1) := by decide +kernel
theorem d111_18 : decode (mB 111) 18 = .ok (.if_icmp .ne 18, 3) := by decide +kernel
theorem d111_21 : decode (mB 111) 21 = .ok (.aload_n 0, 1) := by decide +kernel
theorem d111_22 : decode (mB 111) 22 = .ok (.aload_n 0, 1) := by decide +kernel
theorem d111_23 : decode (mB 111) 23 = .ok (.getfield 36, 3) := by decide +kernel
theorem d111_26 : decode (mB 111) 26 = .ok (.iload_n 1, 1) := by decide +kernel
theorem d111_27 : decode (mB 111) 27 = .ok (.aaload, 1) := by decide +kernel
theorem d111_28 : decode (mB 111) 28 = .ok (.invokevirtual 184, 3) := by decide +kernel
theorem d111_31 : decode (mB 111) 31 = .ok (.ifCond .eq 5, 3) := by decide +kernel
theorem d111_34 : decode (mB 111) 34 = .ok (.iconst 1, 1) := by decide +kernel
theorem d111_35 : decode (mB 111) 35 = .ok (.ireturn, 1) := by decide +kernel
theorem d111_36 : decode (mB 111) 36 = .ok (.iinc 1 1, 3) := by decide +kernel
theorem d111_39 : decode (mB 111) 39 = .ok (.goto (-37), 3) := by decide +kernel
theorem d111_42 : decode (mB 111) 42 = .ok (.iconst 0, 1) := by decide +kernel
theorem d111_43 : decode (mB 111) 43 = .ok (.ireturn, 1) := by decide +kernel
theorem d112_0 : decode (mB 112) 0 = .ok (.aload_n 0, 1) := by decide +kernel
theorem d112_1 : decode (mB 112) 1 = .ok (.getfield 40, 3) := by decide +kernel
theorem d112_4 : decode (mB 112) 4 = .ok (.aload_n 1, 1) := by decide +kernel
theorem d112_5 : decode (mB 112) 5 = .ok (.invokevirtual 188, 3) := by decide +kernel
theorem d112_8 : decode (mB 112) 8 = .ok (.aload_n 0, 1) := by decide +kernel
theorem d112_9 : decode (mB 112) 9 = .ok (.getfield 40, 3) := by decide +kernel
theorem d112_12 : decode (mB 112) 12 = .ok (.invokevirtual 68, 3) := by decide +kernel
theorem d112_15 : decode (mB 112) 15 = .ok (.ifCond .eq 5, 3) := by decide +kernel
theorem d112_18 : decode (mB 112) 18 = .ok (.iconst 1, 1) := by decide +kernel
theorem d112_19 : decode (mB 112) 19 = .ok (.ireturn, 1) := by decide +kernel
theorem d112_20 : decode (mB 112) 20 = .ok (.aload_n 0, 1) := by decide +kernel
theorem d112_21 : decode (mB 112) 21 = .ok (.getfield 40, 3) := by decide +kernel
theorem d112_24 : decode (mB 112) 24 = .ok (.getfield 75, 3) := by decide +kernel
theorem d112_27 : decode (mB 112) 27 = .ok (.getfield 79, 3) := by decide +kernel
theorem d112_30 : decode (mB 112) 30 = .ok (.ifCond .le 7, 3) := by decide +kernel
theorem d112_33 : decode (mB 112) 33 = .ok (.iconst 1, 1) := by decide +kernel
theorem d112_34 : decode (mB 112) 34 = .ok (.goto 4, 3) := by decide +kernel
theorem d112_37 : decode (mB 112) 37 = .ok (.iconst 0, 1) := by decide +kernel
theorem d112_38 : decode (mB 112) 38 = .ok (.istore_n 2, 1) := by decide +kernel
theorem d112_39 : decode (mB 112) 39 = .ok (.aload_n 0, 1) := by decide +kernel
theorem d112_40 : decode (mB 112) 40 = .ok (.getfield 40, 3) := by decide +kernel
theorem d112_43 : decode (mB 112) 43 = .ok (.invokevirtual 85, 3) := by decide +kernel
theorem d112_46 : decode (mB 112) 46 = .ok (.istore_n 3, 1) := by decide +kernel
theorem d112_47 : decode (mB 112) 47 = .ok (.iload_n 3, 1) := by decide +kernel
theorem d112_48 : decode (mB 112) 48 = .ok (.iconst (-1), 1) := by decide +kernel
theorem d112_49 : decode (mB 112) 49 = .ok (.if_icmp .eq 17, 3) := by decide +kernel
theorem d112_52 : decode (mB 112) 52 = .ok (.iload_n 2, 1) := by decide +kernel
theorem d112_53 : decode (mB 112) 53 = .ok (.ifCond .eq 15, 3) := by decide +kernel
theorem d112_56 : decode (mB 112) 56 = .ok (.aload_n 0, 1) := by decide +kernel
theorem d112_57 : decode (mB 112) 57 = .ok (.getfield 40, 3) := by decide +kernel
theorem d112_60 : decode (mB 112) 60 = .ok (.getfield 72, 3) := by decide +kernel
theorem d112_63 : decode (mB 112) 63 = .ok (.ifCond .ne 5, 3) := by decide +kernel
theorem d112_66 : decode (mB 112) 66 = .ok (.iconst 1, 1) := by decide +kernel
theorem d112_67 : decode (mB 112) 67 = .ok (.ireturn, 1) := by decide +kernel
theorem d112_68 : decode (mB 112) 68 = .ok (.aload_n 0, 1) := by decide +kernel
theorem d112_69 : decode (mB 112) 69 = .ok (.aload_n 0, 1) := by decide +kernel
theorem d112_70 : decode (mB 112) 70 = .ok (.getfield 40, 3) := by decide +kernel
theorem d112_73 : decode (mB 112) 73 = .ok (.iload_n 3, 1) := by decide +kernel
theorem d112_74 : decode (mB 112) 74 = .ok (.invokevirtual 171, 3) := by decide +kernel
theorem d112_77 : decode (mB 112) 77 = .ok (.ifCond .eq 18, 3) := by decide +kernel
theorem d112_80 : decode (mB 112) 80 = .ok (.iload_n 2, 1) := by decide +kernel
theorem d112_81 : decode (mB 112) 81 = .ok (.ifCond .eq 18, 3) := by decide +kernel
theorem d112_84 : decode (mB 112) 84 = .ok (.aload_n 0, 1) := by decide +kernel
theorem d112_85 : decode (mB 112) 85 = .ok (.getfield 40, 3) := by decide +kernel
theorem d112_88 : decode (mB 112) 88 = .ok (.getfield 72, 3) := by decide +kernel
theorem d112_91 : decode (mB 112) 91 = .ok (.iconst 1, 1) := by decide +kernel
theorem d112_92 : decode (mB 112) 92 = .ok (.if_icmp .ne 7, 3) := by decide +kernel
theorem d112_95 : decode (mB 112) 95 = .ok (.iconst 1, 1) := by decide +kernel
theorem d112_96 : decode (mB 112) 96 = .ok (.goto 4, 3) := by decide +kernel
theorem d112_99 : decode (mB 112) 99 = .ok (.iconst 0, 1) := by decide +kernel
theorem d112_100 : decode (mB 112) 100 = .ok (.ireturn, 1) := by decide +kernel
theorem d197_0 : decode (mB 197) 0 = .ok (.new 7, 3) := by decide +kernel
theorem d197_3 : decode (mB 197) 3 = .ok (.dup, 1) := by decide +kernel
theorem d197_4 : decode (mB 197) 4 = .ok (.invokespecial 9, 3) := by decide +kernel
theorem d197_7 : decode (mB 197) 7 = .ok (.astore_n 1, 1) := by decide +kernel
theorem d197_8 : decode (mB 197) 8 = .ok (.new 10, 3) := by decide +kernel
theorem d197_11 : decode (mB 197) 11 = .ok (.dup, 1) := by decide +kernel
theorem d197_12 : decode (mB 197) 12 = .ok (.invokespecial 12, 3) := by decide +kernel
theorem d197_15 : decode (mB 197) 15 = .ok (.astore_n 2, 1) := by decide +kernel
theorem d197_16 : decode (mB 197) 16 = .ok (.iconst 0, 1) := by decide +kernel
theorem d197_17 : decode (mB 197) 17 = .ok (.istore_n 3, 1) := by decide +kernel
theorem d197_18 : decode (mB 197) 18 = .ok (.iload_n 3, 1) := by decide +kernel
theorem d197_19 : decode (mB 197) 19 = .ok (.aload_n 0, 1) := by decide +kernel
theorem d197_20 : decode (mB 197) 20 = .ok (.arraylength, 1) := by decide +kernel
theorem d197_21 : decode (mB 197) 21 = .ok (.bipush 6, 2) := by decide +kernel
theorem d197_23 : decode (mB 197) 23 = .ok (.isub, 1) := by decide +kernel
theorem d197_24 : decode (mB 197) 24 = .ok (.if_icmp .gt 836, 3) := by decide +kernel
theorem d197_27 : decode (mB 197) 27 = .ok (.aload_n 0, 1) := by decide +kernel
theorem d197_28 : decode (mB 197) 28 = .ok (.iload_n 3, 1) := by decide +kernel
theorem d197_29 : decode (mB 197) 29 = .ok (.iaload, 1) := by decide +kernel
theorem d197_30 : decode (mB 197) 30 = .ok (.bipush 31, 2) := by decide +kernel
theorem d197_32 : decode (mB 197) 32 = .ok (.iand, 1) := by decide +kernel
theorem d197_33 : decode (mB 197) 33 = .ok (.tableswitch 821 0 22 #[107, 170, 193, 206, 219, 252, 285, 308, 371, 434, 497, 520, 544, 577, 601, 635, 678, 712, 725, 738, 751, 784, 808], 107) := by decide +kernel
theorem d197_140 : decode (mB 197) 140 = .ok (.aload_n 1, 1) := by decide +kernel
theorem d197_141 : decode (mB 197) 141 = .ok (.aload_n 0, 1) := by decide +kernel
theorem d197_142 : decode (mB 197) 142 = .ok (.iload_n 3, 1) := by decide +kernel
theorem d197_143 : decode (mB 197) 143 = .ok (.iconst 1, 1) := by decide +kernel
theorem d197_144 : decode (mB 197) 144 = .ok (.iadd, 1) := by decide +kernel
theorem d197_145 : decode (mB 197) 145 = .ok (.iaload, 1) := by decide +kernel
theorem d197_146 : decode (mB 197) 146 = .ok (.aload_n 0, 1) := by decide +kernel
theorem d197_147 : decode (mB 197) 147 = .ok (.iload_n 3, 1) := by decide +kernel
theorem d197_148 : decode (mB 197) 148 = .ok (.iconst 2, 1) := by decide +kernel
theorem d197_149 : decode (mB 197) 149 = .ok (.iadd, 1) := by decide +kernel
theorem d197_150 : decode (mB 197) 150 = .ok (.iaload, 1) := by decide +kernel
theorem d197_151 : decode (mB 197) 151 = .ok (.aload_n 0, 1) := by decide +kernel
theorem d197_152 : decode (mB 197) 152 = .ok (.iload_n 3, 1) := by decide +kernel
theorem d197_153 : decode (mB 197) 153 = .ok (.iconst 3, 1) := by decide +kernel
theorem d197_154 : decode (mB 197) 154 = .ok (.iadd, 1) := by decide +kernel
theorem d197_155 : decode (mB 197) 155 = .ok (.iaload, 1) := by decide +kernel
theorem d197_156 : decode (mB 197) 156 = .ok (.aload_n 0, 1) := by decide +kernel
theorem d197_157 : decode (mB 197) 157 = .ok (.iload_n 3, 1) := by decide +kernel
theorem d197_158 : decode (mB 197) 158 = .ok (.iconst 4, 1) := by decide +kernel
theorem d197_159 : decode (mB 197) 159 = .ok (.iadd, 1) := by decide +kernel
theorem d197_160 : decode (mB 197) 160 = .ok (.iaload, 1) := by decide +kernel
theorem d197_161 : decode (mB 197) 161 = .ok (.aload_n 0, 1) := by decide +kernel
theorem d197_162 : decode (mB 197) 162 = .ok (.iload_n 3, 1) := by decide +kernel
theorem d197_163 : decode (mB 197) 163 = .ok (.iconst 5, 1) := by decide +kernel
theorem d197_164 : decode (mB 197) 164 = .ok (.iadd, 1) := by decide +kernel
theorem d197_165 : decode (mB 197) 165 = .ok (.iaload, 1) := by decide +kernel
theorem d197_166 : decode (mB 197) 166 = .ok (.invokevirtual 13, 3) := by decide +kernel
theorem d197_169 : decode (mB 197) 169 = .ok (.aload_n 2, 1) := by decide +kernel
theorem d197_170 : decode (mB 197) 170 = .ok (.aload_n 0, 1) := by decide +kernel
theorem d197_171 : decode (mB 197) 171 = .ok (.iload_n 3, 1) := by decide +kernel
theorem d197_172 : decode (mB 197) 172 = .ok (.iconst 1, 1) := by decide +kernel
theorem d197_173 : decode (mB 197) 173 = .ok (.iadd, 1) := by decide +kernel
theorem d197_174 : decode (mB 197) 174 = .ok (.iaload, 1) := by decide +kernel
theorem d197_175 : decode (mB 197) 175 = .ok (.aload_n 0, 1) := by decide +kernel
theorem d197_176 : decode (mB 197) 176 = .ok (.iload_n 3, 1) := by decide +kernel
theorem d197_177 : decode (mB 197) 177 = .ok (.iconst 2, 1) := by decide +kernel
theorem d197_178 : decode (mB 197) 178 = .ok (.iadd, 1) := by decide +kernel
theorem d197_179 : decode (mB 197) 179 = .ok (.iaload, 1) := by decide +kernel
theorem d197_180 : decode (mB 197) 180 = .ok (.aload_n 0, 1) := by decide +kernel
theorem d197_181 : decode (mB 197) 181 = .ok (.iload_n 3, 1) := by decide +kernel
theorem d197_182 : decode (mB 197) 182 = .ok (.iconst 3, 1) := by decide +kernel
theorem d197_183 : decode (mB 197) 183 = .ok (.iadd, 1) := by decide +kernel
theorem d197_184 : decode (mB 197) 184 = .ok (.iaload, 1) := by decide +kernel
theorem d197_185 : decode (mB 197) 185 = .ok (.aload_n 0, 1) := by decide +kernel
theorem d197_186 : decode (mB 197) 186 = .ok (.iload_n 3, 1) := by decide +kernel
theorem d197_187 : decode (mB 197) 187 = .ok (.iconst 4, 1) := by decide +kernel
theorem d197_188 : decode (mB 197) 188 = .ok (.iadd, 1) := by decide +kernel
theorem d197_189 : decode (mB 197) 189 = .ok (.iaload, 1) := by decide +kernel
theorem d197_190 : decode (mB 197) 190 = .ok (.aload_n 0, 1) := by decide +kernel
theorem d197_191 : decode (mB 197) 191 = .ok (.iload_n 3, 1) := by decide +kernel
theorem d197_192 : decode (mB 197) 192 = .ok (.iconst 5, 1) := by decide +kernel
theorem d197_193 : decode (mB 197) 193 = .ok (.iadd, 1) := by decide +kernel
theorem d197_194 : decode (mB 197) 194 = .ok (.iaload, 1) := by decide +kernel
theorem d197_195 : decode (mB 197) 195 = .ok (.invokevirtual 17, 3) := by decide +kernel
theorem d197_198 : decode (mB 197) 198 = .ok (.if_icmp .eq 656, 3) := by decide +kernel
theorem d197_201 : decode (mB 197) 201 = .ok (.iconst 0, 1) := by decide +kernel
theorem d197_202 : decode (mB 197) 202 = .ok (.ireturn, 1) := by decide +kernel
theorem d197_203 : decode (mB 197) 203 = .ok (.aload_n 1, 1) := by decide +kernel
theorem d197_204 : decode (mB 197) 204 = .ok (.aload_n 0, 1) := by decide +kernel
theorem d197_205 : decode (mB 197) 205 = .ok (.iload_n 3, 1) := by decide +kernel
theorem d197_206 : decode (mB 197) 206 = .ok (.iconst 1, 1) := by decide +kernel
theorem d197_207 : decode (mB 197) 207 = .ok (.iadd, 1) := by decide +kernel
theorem d197_208 : decode (mB 197) 208 = .ok (.iaload, 1) := by decide +kernel
theorem d197_209 : decode (mB 197) 209 = .ok (.invokevirtual 18, 3) := by decide +kernel
theorem d197_212 : decode (mB 197) 212 = .ok (.aload_n 2, 1) := by decide +kernel
theorem d197_213 : decode (mB 197) 213 = .ok (.aload_n 0, 1) := by decide +kernel
theorem d197_214 : decode (mB 197) 214 = .ok (.iload_n 3, 1) := by decide +kernel
theorem d197_215 : decode (mB 197) 215 = .ok (.iconst 1, 1) := by decide +kernel
theorem d197_216 : decode (mB 197) 216 = .ok (.iadd, 1) := by decide +kernel
theorem d197_217 : decode (mB 197) 217 = .ok (.iaload, 1) := by decide +kernel
theorem d197_218 : decode (mB 197) 218 = .ok (.invokevirtual 22, 3) := by decide +kernel
theorem d197_221 : decode (mB 197) 221 = .ok (.if_icmp .eq 633, 3) := by decide +kernel
theorem d197_224 : decode (mB 197) 224 = .ok (.iconst 0, 1) := by decide +kernel
theorem d197_225 : decode (mB 197) 225 = .ok (.ireturn, 1) := by decide +kernel
theorem d197_226 : decode (mB 197) 226 = .ok (.aload_n 1, 1) := by decide +kernel
theorem d197_227 : decode (mB 197) 227 = .ok (.invokevirtual 23, 3) := by decide +kernel
theorem d197_230 : decode (mB 197) 230 = .ok (.aload_n 2, 1) := by decide +kernel
theorem d197_231 : decode (mB 197) 231 = .ok (.invokevirtual 27, 3) := by decide +kernel
theorem d197_234 : decode (mB 197) 234 = .ok (.if_icmp .eq 620, 3) := by decide +kernel
theorem d197_237 : decode (mB 197) 237 = .ok (.iconst 0, 1) := by decide +kernel
theorem d197_238 : decode (mB 197) 238 = .ok (.ireturn, 1) := by decide +kernel
theorem d197_239 : decode (mB 197) 239 = .ok (.aload_n 1, 1) := by decide +kernel
theorem d197_240 : decode (mB 197) 240 = .ok (.invokevirtual 28, 3) := by decide +kernel
theorem d197_243 : decode (mB 197) 243 = .ok (.aload_n 2, 1) := by decide +kernel
theorem d197_244 : decode (mB 197) 244 = .ok (.invokevirtual 31, 3) := by decide +kernel
theorem d197_247 : decode (mB 197) 247 = .ok (.if_icmp .eq 607, 3) := by decide +kernel
theorem d197_250 : decode (mB 197) 250 = .ok (.iconst 0, 1) := by decide +kernel
theorem d197_251 : decode (mB 197) 251 = .ok (.ireturn, 1) := by decide +kernel
theorem d197_252 : decode (mB 197) 252 = .ok (.aload_n 1, 1) := by decide +kernel
theorem d197_253 : decode (mB 197) 253 = .ok (.aload_n 0, 1) := by decide +kernel
theorem d197_254 : decode (mB 197) 254 = .ok (.iload_n 3, 1) := by decide +kernel
theorem d197_255 : decode (mB 197) 255 = .ok (.iconst 1, 1) := by decide +kernel
theorem d197_256 : decode (mB 197) 256 = .ok (.iadd, 1) := by decide +kernel
theorem d197_257 : decode (mB 197) 257 = .ok (.iaload, 1) := by decide +kernel
theorem d197_258 : decode (mB 197) 258 = .ok (.aload_n 0, 1) := by decide +kernel
theorem d197_259 : decode (mB 197) 259 = .ok (.iload_n 3, 1) := by decide +kernel
theorem d197_260 : decode (mB 197) 260 = .ok (.iconst 2, 1) := by decide +kernel
theorem d197_261 : decode (mB 197) 261 = .ok (.iadd, 1) := by decide +kernel
theorem d197_262 : decode (mB 197) 262 = .ok (.iaload, 1) := by decide +kernel
theorem d197_263 : decode (mB 197) 263 = .ok (.invokevirtual 32, 3) := by decide +kernel
theorem d197_266 : decode (mB 197) 266 = .ok (.aload_n 2, 1) := by decide +kernel
theorem d197_267 : decode (mB 197) 267 = .ok (.aload_n 0, 1) := by decide +kernel
theorem d197_268 : decode (mB 197) 268 = .ok (.iload_n 3, 1) := by decide +kernel
theorem d197_269 : decode (mB 197) 269 = .ok (.iconst 1, 1) := by decide +kernel
theorem d197_270 : decode (mB 197) 270 = .ok (.iadd, 1) := by decide +kernel
theorem d197_271 : decode (mB 197) 271 = .ok (.iaload, 1) := by decide +kernel
theorem d197_272 : decode (mB 197) 272 = .ok (.aload_n 0, 1) := by decide +kernel
theorem d197_273 : decode (mB 197) 273 = .ok (.iload_n 3, 1) := by decide +kernel
theorem d197_274 : decode (mB 197) 274 = .ok (.iconst 2, 1) := by decide +kernel
theorem d197_275 : decode (mB 197) 275 = .ok (.iadd, 1) := by decide +kernel
theorem d197_276 : decode (mB 197) 276 = .ok (.iaload, 1) := by decide +kernel
theorem d197_277 : decode (mB 197) 277 = .ok (.invokevirtual 36, 3) := by decide +kernel
theorem d197_280 : decode (mB 197) 280 = .ok (.if_icmp .eq 574, 3) := by decide +kernel
theorem d197_283 : decode (mB 197) 283 = .ok (.iconst 0, 1) := by decide +kernel
theorem d197_284 : decode (mB 197) 284 = .ok (.ireturn, 1) := by decide +kernel
theorem d197_285 : decode (mB 197) 285 = .ok (.aload_n 1, 1) := by decide +kernel
theorem d197_286 : decode (mB 197) 286 = .ok (.aload_n 0, 1) := by decide +kernel
theorem d197_287 : decode (mB 197) 287 = .ok (.iload_n 3, 1) := by decide +kernel
theorem d197_288 : decode (mB 197) 288 = .ok (.iconst 1, 1) := by decide +kernel
theorem d197_289 : decode (mB 197) 289 = .ok (.iadd, 1) := by decide +kernel
theorem d197_290 : decode (mB 197) 290 = .ok (.iaload, 1) := by decide +kernel
theorem d197_291 : decode (mB 197) 291 = .ok (.aload_n 0, 1) := by decide +kernel
theorem d197_292 : decode (mB 197) 292 = .ok (.iload_n 3, 1) := by decide +kernel
theorem d197_293 : decode (mB 197) 293 = .ok (.iconst 2, 1) := by decide +kernel
theorem d197_294 : decode (mB 197) 294 = .ok (.iadd, 1) := by decide +kernel
theorem d197_295 : decode (mB 197) 295 = .ok (.iaload, 1) := by decide +kernel
theorem d197_296 : decode (mB 197) 296 = .ok (.invokevirtual 37, 3) := by decide +kernel
theorem d197_299 : decode (mB 197) 299 = .ok (.aload_n 2, 1) := by decide +kernel
theorem d197_300 : decode (mB 197) 300 = .ok (.aload_n 0, 1) := by decide +kernel
theorem d197_301 : decode (mB 197) 301 = .ok (.iload_n 3, 1) := by decide +kernel
theorem d197_302 : decode (mB 197) 302 = .ok (.iconst 1, 1) := by decide +kernel
theorem d197_303 : decode (mB 197) 303 = .ok (.iadd, 1) := by decide +kernel
theorem d197_304 : decode (mB 197) 304 = .ok (.iaload, 1) := by decide +kernel
theorem d197_305 : decode (mB 197) 305 = .ok (.aload_n 0, 1) := by decide +kernel
theorem d197_306 : decode (mB 197) 306 = .ok (.iload_n 3, 1) := by decide +kernel
theorem d197_307 : decode (mB 197) 307 = .ok (.iconst 2, 1) := by decide +kernel
theorem d197_308 : decode (mB 197) 308 = .ok (.iadd, 1) := by decide +kernel
theorem d197_309 : decode (mB 197) 309 = .ok (.iaload, 1) := by decide +kernel
theorem d197_310 : decode (mB 197) 310 = .ok (.invokevirtual 40, 3) := by decide +kernel
theorem d197_313 : decode (mB 197) 313 = .ok (.if_icmp .eq 541, 3) := by decide +kernel
theorem d197_316 : decode (mB 197) 316 = .ok (.iconst 0, 1) := by decide +kernel
theorem d197_317 : decode (mB 197) 317 = .ok (.ireturn, 1) := by decide +kernel
theorem d197_318 : decode (mB 197) 318 = .ok (.aload_n 1, 1) := by decide +kernel
theorem d197_319 : decode (mB 197) 319 = .ok (.aload_n 0, 1) := by decide +kernel
theorem d197_320 : decode (mB 197) 320 = .ok (.iload_n 3, 1) := by decide +kernel
theorem d197_321 : decode (mB 197) 321 = .ok (.iconst 1, 1) := by decide +kernel
theorem d197_322 : decode (mB 197) 322 = .ok (.iadd, 1) := by decide +kernel
theorem d197_323 : decode (mB 197) 323 = .ok (.iaload, 1) := by decide +kernel
theorem d197_324 : decode (mB 197) 324 = .ok (.invokevirtual 41, 3) := by decide +kernel
theorem d197_327 : decode (mB 197) 327 = .ok (.aload_n 2, 1) := by decide +kernel
theorem d197_328 : decode (mB 197) 328 = .ok (.aload_n 0, 1) := by decide +kernel
theorem d197_329 : decode (mB 197) 329 = .ok (.iload_n 3, 1) := by decide +kernel
theorem d197_330 : decode (mB 197) 330 = .ok (.iconst 1, 1) := by decide +kernel
theorem d197_331 : decode (mB 197) 331 = .ok (.iadd, 1) := by decide +kernel
theorem d197_332 : decode (mB 197) 332 = .ok (.iaload, 1) := by decide +kernel
theorem d197_333 : decode (mB 197) 333 = .ok (.invokevirtual 44, 3) := by decide +kernel
theorem d197_336 : decode (mB 197) 336 = .ok (.if_icmp .eq 518, 3) := by decide +kernel
theorem d197_339 : decode (mB 197) 339 = .ok (.iconst 0, 1) := by decide +kernel
theorem d197_340 : decode (mB 197) 340 = .ok (.ireturn, 1) := by decide +kernel
theorem d197_341 : decode (mB 197) 341 = .ok (.aload_n 1, 1) := by decide +kernel
theorem d197_342 : decode (mB 197) 342 = .ok (.aload_n 0, 1) := by decide +kernel
theorem d197_343 : decode (mB 197) 343 = .ok (.iload_n 3, 1) := by decide +kernel
theorem d197_344 : decode (mB 197) 344 = .ok (.iconst 1, 1) := by decide +kernel
theorem d197_345 : decode (mB 197) 345 = .ok (.iadd, 1) := by decide +kernel
theorem d197_346 : decode (mB 197) 346 = .ok (.iaload, 1) := by decide +kernel
theorem d197_347 : decode (mB 197) 347 = .ok (.i2l, 1) := by decide +kernel
theorem d197_348 : decode (mB 197) 348 = .ok (.bipush 32, 2) := by decide +kernel
theorem d197_350 : decode (mB 197) 350 = .ok (.lshl, 1) := by decide +kernel
theorem d197_351 : decode (mB 197) 351 = .ok (.aload_n 0, 1) := by decide +kernel
theorem d197_352 : decode (mB 197) 352 = .ok (.iload_n 3, 1) := by decide +kernel
theorem d197_353 : decode (mB 197) 353 = .ok (.iconst 2, 1) := by decide +kernel
theorem d197_354 : decode (mB 197) 354 = .ok (.iadd, 1) := by decide +kernel
theorem d197_355 : decode (mB 197) 355 = .ok (.iaload, 1) := by decide +kernel
theorem d197_356 : decode (mB 197) 356 = .ok (.i2l, 1) := by decide +kernel
theorem d197_357 : decode (mB 197) 357 = .ok (.ldc2_w 45, 3) := by decide +kernel
theorem d197_360 : decode (mB 197) 360 = .ok (.land, 1) := by decide +kernel
theorem d197_361 : decode (mB 197) 361 = .ok (.lor, 1) := by decide +kernel
theorem d197_362 : decode (mB 197) 362 = .ok (.aload_n 0, 1) := by decide +kernel
theorem d197_363 : decode (mB 197) 363 = .ok (.iload_n 3, 1) := by decide +kernel
theorem d197_364 : decode (mB 197) 364 = .ok (.iconst 3, 1) := by decide +kernel
theorem d197_365 : decode (mB 197) 365 = .ok (.iadd, 1) := by decide +kernel
theorem d197_366 : decode (mB 197) 366 = .ok (.iaload, 1) := by decide +kernel
theorem d197_367 : decode (mB 197) 367 = .ok (.invokevirtual 47, 3) := by decide +kernel
theorem d197_370 : decode (mB 197) 370 = .ok (.aload_n 2, 1) := by decide +kernel
theorem d197_371 : decode (mB 197) 371 = .ok (.aload_n 0, 1) := by decide +kernel
theorem d197_372 : decode (mB 197) 372 = .ok (.iload_n 3, 1) := by decide +kernel
theorem d197_373 : decode (mB 197) 373 = .ok (.iconst 1, 1) := by decide +kernel
theorem d197_374 : decode (mB 197) 374 = .ok (.iadd, 1) := by decide +kernel
theorem d197_375 : decode (mB 197) 375 = .ok (.iaload, 1) := by decide +kernel
theorem d197_376 : decode (mB 197) 376 = .ok (.i2l, 1) := by decide +kernel
theorem d197_377 : decode (mB 197) 377 = .ok (.bipush 32, 2) := by decide +kernel
theorem d197_379 : decode (mB 197) 379 = .ok (.lshl, 1) := by decide +kernel
theorem d197_380 : decode (mB 197) 380 = .ok (.aload_n 0, 1) := by decide +kernel
theorem d197_381 : decode (mB 197) 381 = .ok (.iload_n 3, 1) := by decide +kernel
theorem d197_382 : decode (mB 197) 382 = .ok (.iconst 2, 1) := by decide +kernel
theorem d197_383 : decode (mB 197) 383 = .ok (.iadd, 1) := by decide +kernel
theorem d197_384 : decode (mB 197) 384 = .ok (.iaload, 1) := by decide +kernel
theorem d197_385 : decode (mB 197) 385 = .ok (.i2l, 1) := by decide +kernel
theorem d197_386 : decode (mB 197) 386 = .ok (.ldc2_w 45, 3) := by decide +kernel
theorem d197_389 : decode (mB 197) 389 = .ok (.land, 1) := by decide +kernel
theorem d197_390 : decode (mB 197) 390 = .ok (.lor, 1) := by decide +kernel
theorem d197_391 : decode (mB 197) 391 = .ok (.aload_n 0, 1) := by decide +kernel
theorem d197_392 : decode (mB 197) 392 = .ok (.iload_n 3, 1) := by decide +kernel
theorem d197_393 : decode (mB 197) 393 = .ok (.iconst 3, 1) := by decide +kernel
theorem d197_394 : decode (mB 197) 394 = .ok (.iadd, 1) := by decide +kernel
theorem d197_395 : decode (mB 197) 395 = .ok (.iaload, 1) := by decide +kernel
theorem d197_396 : decode (mB 197) 396 = .ok (.invokevirtual 51, 3) := by decide +kernel
theorem d197_399 : decode (mB 197) 399 = .ok (.if_icmp .eq 455, 3) := by decide +kernel
theorem d197_402 : decode (mB 197) 402 = .ok (.iconst 0, 1) := by decide +kernel
theorem d197_403 : decode (mB 197) 403 = .ok (.ireturn, 1) := by decide +kernel
theorem d197_404 : decode (mB 197) 404 = .ok (.aload_n 1, 1) := by decide +kernel
theorem d197_405 : decode (mB 197) 405 = .ok (.aload_n 0, 1) := by decide +kernel
theorem d197_406 : decode (mB 197) 406 = .ok (.iload_n 3, 1) := by decide +kernel
theorem d197_407 : decode (mB 197) 407 = .ok (.iconst 1, 1) := by decide +kernel
theorem d197_408 : decode (mB 197) 408 = .ok (.iadd, 1) := by decide +kernel
theorem d197_409 : decode (mB 197) 409 = .ok (.iaload, 1) := by decide +kernel
theorem d197_410 : decode (mB 197) 410 = .ok (.aload_n 0, 1) := by decide +kernel
theorem d197_411 : decode (mB 197) 411 = .ok (.iload_n 3, 1) := by decide +kernel
theorem d197_412 : decode (mB 197) 412 = .ok (.iconst 2, 1) := by decide +kernel
theorem d197_413 : decode (mB 197) 413 = .ok (.iadd, 1) := by decide +kernel
theorem d197_414 : decode (mB 197) 414 = .ok (.iaload, 1) := by decide +kernel
theorem d197_415 : decode (mB 197) 415 = .ok (.i2l, 1) := by decide +kernel
theorem d197_416 : decode (mB 197) 416 = .ok (.bipush 32, 2) := by decide +kernel
theorem d197_418 : decode (mB 197) 418 = .ok (.lshl, 1) := by decide +kernel
theorem d197_419 : decode (mB 197) 419 = .ok (.aload_n 0, 1) := by decide +kernel
theorem d197_420 : decode (mB 197) 420 = .ok (.iload_n 3, 1) := by decide +kernel
theorem d197_421 : decode (mB 197) 421 = .ok (.iconst 3, 1) := by decide +kernel
theorem d197_422 : decode (mB 197) 422 = .ok (.iadd, 1) := by decide +kernel
theorem d197_423 : decode (mB 197) 423 = .ok (.iaload, 1) := by decide +kernel
theorem d197_424 : decode (mB 197) 424 = .ok (.i2l, 1) := by decide +kernel
theorem d197_425 : decode (mB 197) 425 = .ok (.ldc2_w 45, 3) := by decide +kernel
theorem d197_428 : decode (mB 197) 428 = .ok (.land, 1) := by decide +kernel
theorem d197_429 : decode (mB 197) 429 = .ok (.lor, 1) := by decide +kernel
theorem d197_430 : decode (mB 197) 430 = .ok (.invokevirtual 52, 3) := by decide +kernel
theorem d197_433 : decode (mB 197) 433 = .ok (.aload_n 2, 1) := by decide +kernel
theorem d197_434 : decode (mB 197) 434 = .ok (.aload_n 0, 1) := by decide +kernel
theorem d197_435 : decode (mB 197) 435 = .ok (.iload_n 3, 1) := by decide +kernel
theorem d197_436 : decode (mB 197) 436 = .ok (.iconst 1, 1) := by decide +kernel
theorem d197_437 : decode (mB 197) 437 = .ok (.iadd, 1) := by decide +kernel
theorem d197_438 : decode (mB 197) 438 = .ok (.iaload, 1) := by decide +kernel
theorem d197_439 : decode (mB 197) 439 = .ok (.aload_n 0, 1) := by decide +kernel
theorem d197_440 : decode (mB 197) 440 = .ok (.iload_n 3, 1) := by decide +kernel
theorem d197_441 : decode (mB 197) 441 = .ok (.iconst 2, 1) := by decide +kernel
theorem d197_442 : decode (mB 197) 442 = .ok (.iadd, 1) := by decide +kernel
theorem d197_443 : decode (mB 197) 443 = .ok (.iaload, 1) := by decide +kernel
theorem d197_444 : decode (mB 197) 444 = .ok (.i2l, 1) := by decide +kernel
theorem d197_445 : decode (mB 197) 445 = .ok (.bipush 32, 2) := by decide +kernel
theorem d197_447 : decode (mB 197) 447 = .ok (.lshl, 1) := by decide +kernel
theorem d197_448 : decode (mB 197) 448 = .ok (.aload_n 0, 1) := by decide +kernel
theorem d197_449 : decode (mB 197) 449 = .ok (.iload_n 3, 1) := by decide +kernel
theorem d197_450 : decode (mB 197) 450 = .ok (.iconst 3, 1) := by decide +kernel
theorem d197_451 : decode (mB 197) 451 = .ok (.iadd, 1) := by decide +kernel
theorem d197_452 : decode (mB 197) 452 = .ok (.iaload, 1) := by decide +kernel
theorem d197_453 : decode (mB 197) 453 = .ok (.i2l, 1) := by decide +kernel
theorem d197_454 : decode (mB 197) 454 = .ok (.ldc2_w 45, 3) := by decide +kernel
theorem d197_457 : decode (mB 197) 457 = .ok (.land, 1) := by decide +kernel
theorem d197_458 : decode (mB 197) 458 = .ok (.lor, 1) := by decide +kernel
theorem d197_459 : decode (mB 197) 459 = .ok (.invokevirtual 56, 3) := by decide +kernel
theorem d197_462 : decode (mB 197) 462 = .ok (.if_icmp .eq 392, 3) := by decide +kernel
theorem d197_465 : decode (mB 197) 465 = .ok (.iconst 0, 1) := by decide +kernel
theorem d197_466 : decode (mB 197) 466 = .ok (.ireturn, 1) := by decide +kernel
theorem d197_467 : decode (mB 197) 467 = .ok (.aload_n 1, 1) := by decide +kernel
theorem d197_468 : decode (mB 197) 468 = .ok (.aload_n 0, 1) := by decide +kernel
theorem d197_469 : decode (mB 197) 469 = .ok (.iload_n 3, 1) := by decide +kernel
theorem d197_470 : decode (mB 197) 470 = .ok (.iconst 1, 1) := by decide +kernel
theorem d197_471 : decode (mB 197) 471 = .ok (.iadd, 1) := by decide +kernel
theorem d197_472 : decode (mB 197) 472 = .ok (.iaload, 1) := by decide +kernel
theorem d197_473 : decode (mB 197) 473 = .ok (.aload_n 0, 1) := by decide +kernel
theorem d197_474 : decode (mB 197) 474 = .ok (.iload_n 3, 1) := by decide +kernel
theorem d197_475 : decode (mB 197) 475 = .ok (.iconst 2, 1) := by decide +kernel
theorem d197_476 : decode (mB 197) 476 = .ok (.iadd, 1) := by decide +kernel
theorem d197_477 : decode (mB 197) 477 = .ok (.iaload, 1) := by decide +kernel
theorem d197_478 : decode (mB 197) 478 = .ok (.i2l, 1) := by decide +kernel
theorem d197_479 : decode (mB 197) 479 = .ok (.bipush 32, 2) := by decide +kernel
theorem d197_481 : decode (mB 197) 481 = .ok (.lshl, 1) := by decide +kernel
theorem d197_482 : decode (mB 197) 482 = .ok (.aload_n 0, 1) := by decide +kernel
theorem d197_483 : decode (mB 197) 483 = .ok (.iload_n 3, 1) := by decide +kernel
theorem d197_484 : decode (mB 197) 484 = .ok (.iconst 3, 1) := by decide +kernel
theorem d197_485 : decode (mB 197) 485 = .ok (.iadd, 1) := by decide +kernel
theorem d197_486 : decode (mB 197) 486 = .ok (.iaload, 1) := by decide +kernel
theorem d197_487 : decode (mB 197) 487 = .ok (.i2l, 1) := by decide +kernel
theorem d197_488 : decode (mB 197) 488 = .ok (.ldc2_w 45, 3) := by decide +kernel
theorem d197_491 : decode (mB 197) 491 = .ok (.land, 1) := by decide +kernel
theorem d197_492 : decode (mB 197) 492 = .ok (.lor, 1) := by decide +kernel
theorem d197_493 : decode (mB 197) 493 = .ok (.invokevirtual 57, 3) := by decide +kernel
theorem d197_496 : decode (mB 197) 496 = .ok (.aload_n 2, 1) := by decide +kernel
theorem d197_497 : decode (mB 197) 497 = .ok (.aload_n 0, 1) := by decide +kernel
theorem d197_498 : decode (mB 197) 498 = .ok (.iload_n 3, 1) := by decide +kernel
theorem d197_499 : decode (mB 197) 499 = .ok (.iconst 1, 1) := by decide +kernel
theorem d197_500 : decode (mB 197) 500 = .ok (.iadd, 1) := by decide +kernel
theorem d197_501 : decode (mB 197) 501 = .ok (.iaload, 1) := by decide +kernel
theorem d197_502 : decode (mB 197) 502 = .ok (.aload_n 0, 1) := by decide +kernel
theorem d197_503 : decode (mB 197) 503 = .ok (.iload_n 3, 1) := by decide +kernel
theorem d197_504 : decode (mB 197) 504 = .ok (.iconst 2, 1) := by decide +kernel
theorem d197_505 : decode (mB 197) 505 = .ok (.iadd, 1) := by decide +kernel
theorem d197_506 : decode (mB 197) 506 = .ok (.iaload, 1) := by decide +kernel
theorem d197_507 : decode (mB 197) 507 = .ok (.i2l, 1) := by decide +kernel
theorem d197_508 : decode (mB 197) 508 = .ok (.bipush 32, 2) := by decide +kernel
theorem d197_510 : decode (mB 197) 510 = .ok (.lshl, 1) := by decide +kernel
theorem d197_511 : decode (mB 197) 511 = .ok (.aload_n 0, 1) := by decide +kernel
theorem d197_512 : decode (mB 197) 512 = .ok (.iload_n 3, 1) := by decide +kernel
theorem d197_513 : decode (mB 197) 513 = .ok (.iconst 3, 1) := by decide +kernel
theorem d197_514 : decode (mB 197) 514 = .ok (.iadd, 1) := by decide +kernel
theorem d197_515 : decode (mB 197) 515 = .ok (.iaload, 1) := by decide +kernel
theorem d197_516 : decode (mB 197) 516 = .ok (.i2l, 1) := by decide +kernel
theorem d197_517 : decode (mB 197) 517 = .ok (.ldc2_w 45, 3) := by decide +kernel
theorem d197_520 : decode (mB 197) 520 = .ok (.land, 1) := by decide +kernel
theorem d197_521 : decode (mB 197) 521 = .ok (.lor, 1) := by decide +kernel
theorem d197_522 : decode (mB 197) 522 = .ok (.invokevirtual 60, 3) := by decide +kernel
theorem d197_525 : decode (mB 197) 525 = .ok (.if_icmp .eq 329, 3) := by decide +kernel
theorem d197_528 : decode (mB 197) 528 = .ok (.iconst 0, 1) := by decide +kernel
theorem d197_529 : decode (mB 197) 529 = .ok (.ireturn, 1) := by decide +kernel
theorem d197_530 : decode (mB 197) 530 = .ok (.aload_n 1, 1) := by decide +kernel
theorem d197_531 : decode (mB 197) 531 = .ok (.aload_n 0, 1) := by decide +kernel
theorem d197_532 : decode (mB 197) 532 = .ok (.iload_n 3, 1) := by decide +kernel
theorem d197_533 : decode (mB 197) 533 = .ok (.iconst 1, 1) := by decide +kernel
theorem d197_534 : decode (mB 197) 534 = .ok (.iadd, 1) := by decide +kernel
theorem d197_535 : decode (mB 197) 535 = .ok (.iaload, 1) := by decide +kernel
theorem d197_536 : decode (mB 197) 536 = .ok (.invokevirtual 61, 3) := by decide +kernel
theorem d197_539 : decode (mB 197) 539 = .ok (.aload_n 2, 1) := by decide +kernel
theorem d197_540 : decode (mB 197) 540 = .ok (.aload_n 0, 1) := by decide +kernel
theorem d197_541 : decode (mB 197) 541 = .ok (.iload_n 3, 1) := by decide +kernel
theorem d197_542 : decode (mB 197) 542 = .ok (.iconst 1, 1) := by decide +kernel
theorem d197_543 : decode (mB 197) 543 = .ok (.iadd, 1) := by decide +kernel
theorem d197_544 : decode (mB 197) 544 = .ok (.iaload, 1) := by decide +kernel
theorem d197_545 : decode (mB 197) 545 = .ok (.invokevirtual 64, 3) := by decide +kernel
theorem d197_548 : decode (mB 197) 548 = .ok (.if_icmp .eq 306, 3) := by decide +kernel
theorem d197_551 : decode (mB 197) 551 = .ok (.iconst 0, 1) := by decide +kernel
theorem d197_552 : decode (mB 197) 552 = .ok (.ireturn, 1) := by decide +kernel
theorem d197_553 : decode (mB 197) 553 = .ok (.aload_n 1, 1) := by decide +kernel
theorem d197_554 : decode (mB 197) 554 = .ok (.aload_n 0, 1) := by decide +kernel
theorem d197_555 : decode (mB 197) 555 = .ok (.iload_n 3, 1) := by decide +kernel
theorem d197_556 : decode (mB 197) 556 = .ok (.iconst 1, 1) := by decide +kernel
theorem d197_557 : decode (mB 197) 557 = .ok (.iadd, 1) := by decide +kernel
theorem d197_558 : decode (mB 197) 558 = .ok (.iaload, 1) := by decide +kernel
theorem d197_559 : decode (mB 197) 559 = .ok (.invokevirtual 65, 3) := by decide +kernel
theorem d197_562 : decode (mB 197) 562 = .ok (.aload_n 2, 1) := by decide +kernel
theorem d197_563 : decode (mB 197) 563 = .ok (.aload_n 0, 1) := by decide +kernel
theorem d197_564 : decode (mB 197) 564 = .ok (.iload_n 3, 1) := by decide +kernel
theorem d197_565 : decode (mB 197) 565 = .ok (.iconst 1, 1) := by decide +kernel
theorem d197_566 : decode (mB 197) 566 = .ok (.iadd, 1) := by decide +kernel
theorem d197_567 : decode (mB 197) 567 = .ok (.iaload, 1) := by decide +kernel
theorem d197_568 : decode (mB 197) 568 = .ok (.invokevirtual 69, 3) := by decide +kernel
theorem d197_571 : decode (mB 197) 571 = .ok (.lcmp, 1) := by decide +kernel
theorem d197_572 : decode (mB 197) 572 = .ok (.ifCond .eq 282, 3) := by decide +kernel
theorem d197_575 : decode (mB 197) 575 = .ok (.iconst 0, 1) := by decide +kernel
theorem d197_576 : decode (mB 197) 576 = .ok (.ireturn, 1) := by decide +kernel
theorem d197_577 : decode (mB 197) 577 = .ok (.aload_n 1, 1) := by decide +kernel
theorem d197_578 : decode (mB 197) 578 = .ok (.aload_n 0, 1) := by decide +kernel
theorem d197_579 : decode (mB 197) 579 = .ok (.iload_n 3, 1) := by decide +kernel
theorem d197_580 : decode (mB 197) 580 = .ok (.iconst 1, 1) := by decide +kernel
theorem d197_581 : decode (mB 197) 581 = .ok (.iadd, 1) := by decide +kernel
theorem d197_582 : decode (mB 197) 582 = .ok (.iaload, 1) := by decide +kernel
theorem d197_583 : decode (mB 197) 583 = .ok (.aload_n 0, 1) := by decide +kernel
theorem d197_584 : decode (mB 197) 584 = .ok (.iload_n 3, 1) := by decide +kernel
theorem d197_585 : decode (mB 197) 585 = .ok (.iconst 2, 1) := by decide +kernel
theorem d197_586 : decode (mB 197) 586 = .ok (.iadd, 1) := by decide +kernel
theorem d197_587 : decode (mB 197) 587 = .ok (.iaload, 1) := by decide +kernel
theorem d197_588 : decode (mB 197) 588 = .ok (.invokevirtual 70, 3) := by decide +kernel
theorem d197_591 : decode (mB 197) 591 = .ok (.aload_n 2, 1) := by decide +kernel
theorem d197_592 : decode (mB 197) 592 = .ok (.aload_n 0, 1) := by decide +kernel
theorem d197_593 : decode (mB 197) 593 = .ok (.iload_n 3, 1) := by decide +kernel
theorem d197_594 : decode (mB 197) 594 = .ok (.iconst 1, 1) := by decide +kernel
theorem d197_595 : decode (mB 197) 595 = .ok (.iadd, 1) := by decide +kernel
theorem d197_596 : decode (mB 197) 596 = .ok (.iaload, 1) := by decide +kernel
theorem d197_597 : decode (mB 197) 597 = .ok (.aload_n 0, 1) := by decide +kernel
theorem d197_598 : decode (mB 197) 598 = .ok (.iload_n 3, 1) := by decide +kernel
theorem d197_599 : decode (mB 197) 599 = .ok (.iconst 2, 1) := by decide +kernel
theorem d197_600 : decode (mB 197) 600 = .ok (.iadd, 1) := by decide +kernel
theorem d197_601 : decode (mB 197) 601 = .ok (.iaload, 1) := by decide +kernel
theorem d197_602 : decode (mB 197) 602 = .ok (.invokevirtual 73, 3) := by decide +kernel
theorem d197_605 : decode (mB 197) 605 = .ok (.if_icmp .eq 249, 3) := by decide +kernel
theorem d197_608 : decode (mB 197) 608 = .ok (.iconst 0, 1) := by decide +kernel
theorem d197_609 : decode (mB 197) 609 = .ok (.ireturn, 1) := by decide +kernel
theorem d197_610 : decode (mB 197) 610 = .ok (.aload_n 1, 1) := by decide +kernel
theorem d197_611 : decode (mB 197) 611 = .ok (.aload_n 0, 1) := by decide +kernel
theorem d197_612 : decode (mB 197) 612 = .ok (.iload_n 3, 1) := by decide +kernel
theorem d197_613 : decode (mB 197) 613 = .ok (.iconst 1, 1) := by decide +kernel
theorem d197_614 : decode (mB 197) 614 = .ok (.iadd, 1) := by decide +kernel
theorem d197_615 : decode (mB 197) 615 = .ok (.iaload, 1) := by decide +kernel
theorem d197_616 : decode (mB 197) 616 = .ok (.invokevirtual 74, 3) := by decide +kernel
theorem d197_619 : decode (mB 197) 619 = .ok (.aload_n 2, 1) := by decide +kernel
theorem d197_620 : decode (mB 197) 620 = .ok (.aload_n 0, 1) := by decide +kernel
theorem d197_621 : decode (mB 197) 621 = .ok (.iload_n 3, 1) := by decide +kernel
theorem d197_622 : decode (mB 197) 622 = .ok (.iconst 1, 1) := by decide +kernel
theorem d197_623 : decode (mB 197) 623 = .ok (.iadd, 1) := by decide +kernel
theorem d197_624 : decode (mB 197) 624 = .ok (.iaload, 1) := by decide +kernel
theorem d197_625 : decode (mB 197) 625 = .ok (.invokevirtual 77, 3) := by decide +kernel
theorem d197_628 : decode (mB 197) 628 = .ok (.lcmp, 1) := by decide +kernel
theorem d197_629 : decode (mB 197) 629 = .ok (.ifCond .eq 225, 3) := by decide +kernel
theorem d197_632 : decode (mB 197) 632 = .ok (.iconst 0, 1) := by decide +kernel
theorem d197_633 : decode (mB 197) 633 = .ok (.ireturn, 1) := by decide +kernel
theorem d197_634 : decode (mB 197) 634 = .ok (.aload_n 1, 1) := by decide +kernel
theorem d197_635 : decode (mB 197) 635 = .ok (.aload_n 0, 1) := by decide +kernel
theorem d197_636 : decode (mB 197) 636 = .ok (.iload_n 3, 1) := by decide +kernel
theorem d197_637 : decode (mB 197) 637 = .ok (.iconst 1, 1) := by decide +kernel
theorem d197_638 : decode (mB 197) 638 = .ok (.iadd, 1) := by decide +kernel
theorem d197_639 : decode (mB 197) 639 = .ok (.iaload, 1) := by decide +kernel
theorem d197_640 : decode (mB 197) 640 = .ok (.aload_n 0, 1) := by decide +kernel
theorem d197_641 : decode (mB 197) 641 = .ok (.iload_n 3, 1) := by decide +kernel
theorem d197_642 : decode (mB 197) 642 = .ok (.iconst 2, 1) := by decide +kernel
theorem d197_643 : decode (mB 197) 643 = .ok (.iadd, 1) := by decide +kernel
theorem d197_644 : decode (mB 197) 644 = .ok (.iaload, 1) := by decide +kernel
theorem d197_645 : decode (mB 197) 645 = .ok (.invokevirtual 78, 3) := by decide +kernel
theorem d197_648 : decode (mB 197) 648 = .ok (.aload_n 2, 1) := by decide +kernel
theorem d197_649 : decode (mB 197) 649 = .ok (.aload_n 0, 1) := by decide +kernel
theorem d197_650 : decode (mB 197) 650 = .ok (.iload_n 3, 1) := by decide +kernel
theorem d197_651 : decode (mB 197) 651 = .ok (.iconst 1, 1) := by decide +kernel
theorem d197_652 : decode (mB 197) 652 = .ok (.iadd, 1) := by decide +kernel
theorem d197_653 : decode (mB 197) 653 = .ok (.iaload, 1) := by decide +kernel
theorem d197_654 : decode (mB 197) 654 = .ok (.aload_n 0, 1) := by decide +kernel
theorem d197_655 : decode (mB 197) 655 = .ok (.iload_n 3, 1) := by decide +kernel
theorem d197_656 : decode (mB 197) 656 = .ok (.iconst 2, 1) := by decide +kernel
theorem d197_657 : decode (mB 197) 657 = .ok (.iadd, 1) := by decide +kernel
theorem d197_658 : decode (mB 197) 658 = .ok (.iaload, 1) := by decide +kernel
theorem d197_659 : decode (mB 197) 659 = .ok (.invokevirtual 82, 3) := by decide +kernel
theorem d197_662 : decode (mB 197) 662 = .ok (.lcmp, 1) := by decide +kernel
theorem d197_663 : decode (mB 197) 663 = .ok (.ifCond .eq 191, 3) := by decide +kernel
theorem d197_666 : decode (mB 197) 666 = .ok (.iconst 0, 1) := by decide +kernel
theorem d197_667 : decode (mB 197) 667 = .ok (.ireturn, 1) := by decide +kernel
theorem d197_668 : decode (mB 197) 668 = .ok (.aload_n 1, 1) := by decide +kernel
theorem d197_669 : decode (mB 197) 669 = .ok (.aload_n 0, 1) := by decide +kernel
theorem d197_670 : decode (mB 197) 670 = .ok (.iload_n 3, 1) := by decide +kernel
theorem d197_671 : decode (mB 197) 671 = .ok (.iconst 1, 1) := by decide +kernel
theorem d197_672 : decode (mB 197) 672 = .ok (.iadd, 1) := by decide +kernel
theorem d197_673 : decode (mB 197) 673 = .ok (.iaload, 1) := by decide +kernel
theorem d197_674 : decode (mB 197) 674 = .ok (.aload_n 0, 1) := by decide +kernel
theorem d197_675 : decode (mB 197) 675 = .ok (.iload_n 3, 1) := by decide +kernel
theorem d197_676 : decode (mB 197) 676 = .ok (.iconst 2, 1) := by decide +kernel
theorem d197_677 : decode (mB 197) 677 = .ok (.iadd, 1) := by decide +kernel
theorem d197_678 : decode (mB 197) 678 = .ok (.iaload, 1) := by decide +kernel
theorem d197_679 : decode (mB 197) 679 = .ok (.aload_n 0, 1) := by decide +kernel
theorem d197_680 : decode (mB 197) 680 = .ok (.iload_n 3, 1) := by decide +kernel
theorem d197_681 : decode (mB 197) 681 = .ok (.iconst 3, 1) := by decide +kernel
theorem d197_682 : decode (mB 197) 682 = .ok (.iadd, 1) := by decide +kernel
theorem d197_683 : decode (mB 197) 683 = .ok (.iaload, 1) := by decide +kernel
theorem d197_684 : decode (mB 197) 684 = .ok (.invokevirtual 83, 3) := by decide +kernel
theorem d197_687 : decode (mB 197) 687 = .ok (.aload_n 2, 1) := by decide +kernel
theorem d197_688 : decode (mB 197) 688 = .ok (.aload_n 0, 1) := by decide +kernel
theorem d197_689 : decode (mB 197) 689 = .ok (.iload_n 3, 1) := by decide +kernel
theorem d197_690 : decode (mB 197) 690 = .ok (.iconst 1, 1) := by decide +kernel
theorem d197_691 : decode (mB 197) 691 = .ok (.iadd, 1) := by decide +kernel
theorem d197_692 : decode (mB 197) 692 = .ok (.iaload, 1) := by decide +kernel
theorem d197_693 : decode (mB 197) 693 = .ok (.aload_n 0, 1) := by decide +kernel
theorem d197_694 : decode (mB 197) 694 = .ok (.iload_n 3, 1) := by decide +kernel
theorem d197_695 : decode (mB 197) 695 = .ok (.iconst 2, 1) := by decide +kernel
theorem d197_696 : decode (mB 197) 696 = .ok (.iadd, 1) := by decide +kernel
theorem d197_697 : decode (mB 197) 697 = .ok (.iaload, 1) := by decide +kernel
theorem d197_698 : decode (mB 197) 698 = .ok (.aload_n 0, 1) := by decide +kernel
theorem d197_699 : decode (mB 197) 699 = .ok (.iload_n 3, 1) := by decide +kernel
theorem d197_700 : decode (mB 197) 700 = .ok (.iconst 3, 1) := by decide +kernel
theorem d197_701 : decode (mB 197) 701 = .ok (.iadd, 1) := by decide +kernel
theorem d197_702 : decode (mB 197) 702 = .ok (.iaload, 1) := by decide +kernel
theorem d197_703 : decode (mB 197) 703 = .ok (.invokevirtual 87, 3) := by decide +kernel
theorem d197_706 : decode (mB 197) 706 = .ok (.if_icmp .eq 148, 3) := by decide +kernel
theorem d197_709 : decode (mB 197) 709 = .ok (.iconst 0, 1) := by decide +kernel
theorem d197_710 : decode (mB 197) 710 = .ok (.ireturn, 1) := by decide +kernel
theorem d197_711 : decode (mB 197) 711 = .ok (.aload_n 1, 1) := by decide +kernel
theorem d197_712 : decode (mB 197) 712 = .ok (.aload_n 0, 1) := by decide +kernel
theorem d197_713 : decode (mB 197) 713 = .ok (.iload_n 3, 1) := by decide +kernel
theorem d197_714 : decode (mB 197) 714 = .ok (.iconst 1, 1) := by decide +kernel
theorem d197_715 : decode (mB 197) 715 = .ok (.iadd, 1) := by decide +kernel
theorem d197_716 : decode (mB 197) 716 = .ok (.iaload, 1) := by decide +kernel
theorem d197_717 : decode (mB 197) 717 = .ok (.aload_n 0, 1) := by decide +kernel
theorem d197_718 : decode (mB 197) 718 = .ok (.iload_n 3, 1) := by decide +kernel
theorem d197_719 : decode (mB 197) 719 = .ok (.iconst 2, 1) := by decide +kernel
theorem d197_720 : decode (mB 197) 720 = .ok (.iadd, 1) := by decide +kernel
theorem d197_721 : decode (mB 197) 721 = .ok (.iaload, 1) := by decide +kernel
theorem d197_722 : decode (mB 197) 722 = .ok (.invokevirtual 88, 3) := by decide +kernel
theorem d197_725 : decode (mB 197) 725 = .ok (.aload_n 2, 1) := by decide +kernel
theorem d197_726 : decode (mB 197) 726 = .ok (.aload_n 0, 1) := by decide +kernel
theorem d197_727 : decode (mB 197) 727 = .ok (.iload_n 3, 1) := by decide +kernel
theorem d197_728 : decode (mB 197) 728 = .ok (.iconst 1, 1) := by decide +kernel
theorem d197_729 : decode (mB 197) 729 = .ok (.iadd, 1) := by decide +kernel
theorem d197_730 : decode (mB 197) 730 = .ok (.iaload, 1) := by decide +kernel
theorem d197_731 : decode (mB 197) 731 = .ok (.aload_n 0, 1) := by decide +kernel
theorem d197_732 : decode (mB 197) 732 = .ok (.iload_n 3, 1) := by decide +kernel
theorem d197_733 : decode (mB 197) 733 = .ok (.iconst 2, 1) := by decide +kernel
theorem d197_734 : decode (mB 197) 734 = .ok (.iadd, 1) := by decide +kernel
theorem d197_735 : decode (mB 197) 735 = .ok (.iaload, 1) := by decide +kernel
theorem d197_736 : decode (mB 197) 736 = .ok (.invokevirtual 91, 3) := by decide +kernel
theorem d197_739 : decode (mB 197) 739 = .ok (.lcmp, 1) := by decide +kernel
theorem d197_740 : decode (mB 197) 740 = .ok (.ifCond .eq 114, 3) := by decide +kernel
theorem d197_743 : decode (mB 197) 743 = .ok (.iconst 0, 1) := by decide +kernel
theorem d197_744 : decode (mB 197) 744 = .ok (.ireturn, 1) := by decide +kernel
theorem d197_745 : decode (mB 197) 745 = .ok (.aload_n 1, 1) := by decide +kernel
theorem d197_746 : decode (mB 197) 746 = .ok (.invokevirtual 92, 3) := by decide +kernel
theorem d197_749 : decode (mB 197) 749 = .ok (.aload_n 2, 1) := by decide +kernel
theorem d197_750 : decode (mB 197) 750 = .ok (.invokevirtual 95, 3) := by decide +kernel
theorem d197_753 : decode (mB 197) 753 = .ok (.if_icmp .eq 101, 3) := by decide +kernel
theorem d197_756 : decode (mB 197) 756 = .ok (.iconst 0, 1) := by decide +kernel
theorem d197_757 : decode (mB 197) 757 = .ok (.ireturn, 1) := by decide +kernel
theorem d197_758 : decode (mB 197) 758 = .ok (.aload_n 1, 1) := by decide +kernel
theorem d197_759 : decode (mB 197) 759 = .ok (.invokevirtual 96, 3) := by decide +kernel
theorem d197_762 : decode (mB 197) 762 = .ok (.aload_n 2, 1) := by decide +kernel
theorem d197_763 : decode (mB 197) 763 = .ok (.invokevirtual 99, 3) := by decide +kernel
theorem d197_766 : decode (mB 197) 766 = .ok (.if_icmp .eq 88, 3) := by decide +kernel
theorem d197_769 : decode (mB 197) 769 = .ok (.iconst 0, 1) := by decide +kernel
theorem d197_770 : decode (mB 197) 770 = .ok (.ireturn, 1) := by decide +kernel
theorem d197_771 : decode (mB 197) 771 = .ok (.aload_n 1, 1) := by decide +kernel
theorem d197_772 : decode (mB 197) 772 = .ok (.invokevirtual 100, 3) := by decide +kernel
theorem d197_775 : decode (mB 197) 775 = .ok (.aload_n 2, 1) := by decide +kernel
theorem d197_776 : decode (mB 197) 776 = .ok (.invokevirtual 103, 3) := by decide +kernel
theorem d197_779 : decode (mB 197) 779 = .ok (.if_icmp .eq 75, 3) := by decide +kernel
theorem d197_782 : decode (mB 197) 782 = .ok (.iconst 0, 1) := by decide +kernel
theorem d197_783 : decode (mB 197) 783 = .ok (.ireturn, 1) := by decide +kernel
theorem d197_784 : decode (mB 197) 784 = .ok (.aload_n 1, 1) := by decide +kernel
theorem d197_785 : decode (mB 197) 785 = .ok (.aload_n 0, 1) := by decide +kernel
theorem d197_786 : decode (mB 197) 786 = .ok (.iload_n 3, 1) := by decide +kernel
theorem d197_787 : decode (mB 197) 787 = .ok (.iconst 1, 1) := by decide +kernel
theorem d197_788 : decode (mB 197) 788 = .ok (.iadd, 1) := by decide +kernel
theorem d197_789 : decode (mB 197) 789 = .ok (.iaload, 1) := by decide +kernel
theorem d197_790 : decode (mB 197) 790 = .ok (.aload_n 0, 1) := by decide +kernel
theorem d197_791 : decode (mB 197) 791 = .ok (.iload_n 3, 1) := by decide +kernel
theorem d197_792 : decode (mB 197) 792 = .ok (.iconst 2, 1) := by decide +kernel
theorem d197_793 : decode (mB 197) 793 = .ok (.iadd, 1) := by decide +kernel
theorem d197_794 : decode (mB 197) 794 = .ok (.iaload, 1) := by decide +kernel
theorem d197_795 : decode (mB 197) 795 = .ok (.invokevirtual 104, 3) := by decide +kernel
theorem d197_798 : decode (mB 197) 798 = .ok (.aload_n 2, 1) := by decide +kernel
theorem d197_799 : decode (mB 197) 799 = .ok (.aload_n 0, 1) := by decide +kernel
theorem d197_800 : decode (mB 197) 800 = .ok (.iload_n 3, 1) := by decide +kernel
theorem d197_801 : decode (mB 197) 801 = .ok (.iconst 1, 1) := by decide +kernel
theorem d197_802 : decode (mB 197) 802 = .ok (.iadd, 1) := by decide +kernel
theorem d197_803 : decode (mB 197) 803 = .ok (.iaload, 1) := by decide +kernel
theorem d197_804 : decode (mB 197) 804 = .ok (.aload_n 0, 1) := by decide +kernel
theorem d197_805 : decode (mB 197) 805 = .ok (.iload_n 3, 1) := by decide +kernel
theorem d197_806 : decode (mB 197) 806 = .ok (.iconst 2, 1) := by decide +kernel
theorem d197_807 : decode (mB 197) 807 = .ok (.iadd, 1) := by decide +kernel
theorem d197_808 : decode (mB 197) 808 = .ok (.iaload, 1) := by decide +kernel
theorem d197_809 : decode (mB 197) 809 = .ok (.invokevirtual 107, 3) := by decide +kernel
theorem d197_812 : decode (mB 197) 812 = .ok (.if_icmp .eq 42, 3) := by decide +kernel
theorem d197_815 : decode (mB 197) 815 = .ok (.iconst 0, 1) := by decide +kernel
theorem d197_816 : decode (mB 197) 816 = .ok (.ireturn, 1) := by decide +kernel
theorem d197_817 : decode (mB 197) 817 = .ok (.aload_n 1, 1) := by decide +kernel
theorem d197_818 : decode (mB 197) 818 = .ok (.aload_n 0, 1) := by decide +kernel
theorem d197_819 : decode (mB 197) 819 = .ok (.iload_n 3, 1) := by decide +kernel
theorem d197_820 : decode (mB 197) 820 = .ok (.iconst 1, 1) := by decide +kernel
theorem d197_821 : decode (mB 197) 821 = .ok (.iadd, 1) := by decide +kernel
theorem d197_822 : decode (mB 197) 822 = .ok (.iaload, 1) := by decide +kernel
theorem d197_823 : decode (mB 197) 823 = .ok (.invokevirtual 108, 3) := by decide +kernel
theorem d197_826 : decode (mB 197) 826 = .ok (.aload_n 2, 1) := by decide +kernel
theorem d197_827 : decode (mB 197) 827 = .ok (.aload_n 0, 1) := by decide +kernel
theorem d197_828 : decode (mB 197) 828 = .ok (.iload_n 3, 1) := by decide +kernel
theorem d197_829 : decode (mB 197) 829 = .ok (.iconst 1, 1) := by decide +kernel
theorem d197_830 : decode (mB 197) 830 = .ok (.iadd, 1) := by decide +kernel
theorem d197_831 : decode (mB 197) 831 = .ok (.iaload, 1) := by decide +kernel
theorem d197_832 : decode (mB 197) 832 = .ok (.invokevirtual 111, 3) := by decide +kernel
theorem d197_835 : decode (mB 197) 835 = .ok (.lcmp, 1) := by decide +kernel
theorem d197_836 : decode (mB 197) 836 = .ok (.ifCond .eq 18, 3) := by decide +kernel
theorem d197_839 : decode (mB 197) 839 = .ok (.iconst 0, 1) := by decide +kernel
theorem d197_840 : decode (mB 197) 840 = .ok (.ireturn, 1) := by decide +kernel
theorem d197_841 : decode (mB 197) 841 = .ok (.aload_n 1, 1) := by decide +kernel
theorem d197_842 : decode (mB 197) 842 = .ok (.invokevirtual 112, 3) := by decide +kernel
theorem d197_845 : decode (mB 197) 845 = .ok (.aload_n 2, 1) := by decide +kernel
theorem d197_846 : decode (mB 197) 846 = .ok (.invokevirtual 115, 3) := by decide +kernel
theorem d197_849 : decode (mB 197) 849 = .ok (.if_icmp .eq 5, 3) := by decide +kernel
theorem d197_852 : decode (mB 197) 852 = .ok (.iconst 0, 1) := by decide +kernel
theorem d197_853 : decode (mB 197) 853 = .ok (.ireturn, 1) := by decide +kernel
theorem d197_854 : decode (mB 197) 854 = .ok (.iinc 3 6, 3) := by decide +kernel
theorem d197_857 : decode (mB 197) 857 = .ok (.goto (-839), 3) := by decide +kernel
theorem d197_860 : decode (mB 197) 860 = .ok (.iconst 1, 1) := by decide +kernel
theorem d197_861 : decode (mB 197) 861 = .ok (.ireturn, 1) := by decide +kernel
end
section
/-! the state as numbers: int fields and elements, long ones, by (field, object, element); the cells that the constructors make, by program -/
abbrev St : Type := (Nat → Nat → Nat → Int32) × (Nat → Nat → Nat → Int64)
def si (s : St) (id o e : Nat) (v : Int32) : St := (fun a b c => if a = id ∧ b = o ∧ c = e then v else s.1 a b c, s.2)
def sl (s : St) (id o e : Nat) (v : Int64) : St := (s.1, fun a b c => if a = id ∧ b = o ∧ c = e then v else s.2 a b c)
abbrev Ds : Type := Nat × Nat × Nat × Nat
abbrev Sh : Type := (Nat × List Ds) ⊕ Ds
def PA (p : Nat) : Nat := if p < 12 then 11 + 11 * p else 151
def FA (i : Nat) : Nat := if i < 6 then 163 + 16 * i else 259
def RW (i : Nat) : Nat := if i < 6 then 164 + 16 * i else 265
def CA (o : Nat) : Nat := if o = 0 then 146 else 260
def itp (v : Int32) : Value := if v < 0 then .null else .ref (PA v.toNatClampNeg)
def itv (s : St) (d : Ds) : Value := if d.1 = 0 then .int (s.1 d.2.1 d.2.2.1 d.2.2.2) else if d.1 = 1 then .long (s.2 d.2.1 d.2.2.1 d.2.2.2) else if d.1 = 2 then .ref d.2.1 else itp (s.1 d.2.1 d.2.2.1 d.2.2.2)
def itc (s : St) (h : Sh) : Ce := match h with
  | .inl (ci, ds) => .inr (ci, ds.map (itv s))
  | .inr (t, N, id, o) => if t = 1 then .inl (1, N, .inr (.inl (s.2 id o))) else if t < 4 then .inl (t, N, .inl (s.1 id o)) else .inl (t, N, .inr (.inr (.inr (.inr (fun q => some (id + o * q))))))
def shl : List Sh := [
  .inl (8, [(2, 4, 0, 0), (0, 129, 0, 0), (2, 5, 0, 0), (2, 10, 0, 0), (0, 132, 0, 0), (0, 133, 0, 0), (2, 143, 0, 0)]),
  .inr (0, 800, 128, 0),
  .inl (3, [(2, 6, 0, 0), (3, 49, 0, 0), (0, 50, 0, 0)]),
  .inl (6, [(2, 7, 0, 0), (2, 8, 0, 0), (2, 9, 0, 0), (0, 99, 0, 0)]),
  .inr (0, 801, 96, 0),
  .inr (0, 801, 97, 0),
  .inr (0, 801, 98, 0),
  .inr (4, 12, 11, 11),
  .inl (4, [(0, 64, 0, 0), (0, 65, 0, 0), (0, 66, 0, 0), (0, 67, 0, 0), (2, 12, 0, 0), (2, 13, 0, 0), (2, 14, 0, 0), (2, 15, 0, 0), (2, 16, 0, 0), (2, 17, 0, 0), (2, 18, 0, 0), (2, 19, 0, 0), (2, 20, 0, 0), (2, 21, 0, 0)]),
  .inr (0, 40, 68, 0),
  .inr (0, 40, 69, 0),
  .inr (0, 40, 70, 0),
  .inr (0, 40, 71, 0),
  .inr (0, 40, 72, 0),
  .inr (0, 40, 73, 0),
  .inr (0, 121, 74, 0),
  .inr (0, 120, 75, 0),
  .inr (0, 120, 76, 0),
  .inr (1, 60, 77, 0),
  .inl (4, [(0, 64, 1, 0), (0, 65, 1, 0), (0, 66, 1, 0), (0, 67, 1, 0), (2, 23, 0, 0), (2, 24, 0, 0), (2, 25, 0, 0), (2, 26, 0, 0), (2, 27, 0, 0), (2, 28, 0, 0), (2, 29, 0, 0), (2, 30, 0, 0), (2, 31, 0, 0), (2, 32, 0, 0)]),
  .inr (0, 40, 68, 1),
  .inr (0, 40, 69, 1),
  .inr (0, 40, 70, 1),
  .inr (0, 40, 71, 1),
  .inr (0, 40, 72, 1),
  .inr (0, 40, 73, 1),
  .inr (0, 121, 74, 1),
  .inr (0, 120, 75, 1),
  .inr (0, 120, 76, 1),
  .inr (1, 60, 77, 1),
  .inl (4, [(0, 64, 2, 0), (0, 65, 2, 0), (0, 66, 2, 0), (0, 67, 2, 0), (2, 34, 0, 0), (2, 35, 0, 0), (2, 36, 0, 0), (2, 37, 0, 0), (2, 38, 0, 0), (2, 39, 0, 0), (2, 40, 0, 0), (2, 41, 0, 0), (2, 42, 0, 0), (2, 43, 0, 0)]),
  .inr (0, 40, 68, 2),
  .inr (0, 40, 69, 2),
  .inr (0, 40, 70, 2),
  .inr (0, 40, 71, 2),
  .inr (0, 40, 72, 2),
  .inr (0, 40, 73, 2),
  .inr (0, 121, 74, 2),
  .inr (0, 120, 75, 2),
  .inr (0, 120, 76, 2),
  .inr (1, 60, 77, 2),
  .inl (4, [(0, 64, 3, 0), (0, 65, 3, 0), (0, 66, 3, 0), (0, 67, 3, 0), (2, 45, 0, 0), (2, 46, 0, 0), (2, 47, 0, 0), (2, 48, 0, 0), (2, 49, 0, 0), (2, 50, 0, 0), (2, 51, 0, 0), (2, 52, 0, 0), (2, 53, 0, 0), (2, 54, 0, 0)]),
  .inr (0, 40, 68, 3),
  .inr (0, 40, 69, 3),
  .inr (0, 40, 70, 3),
  .inr (0, 40, 71, 3),
  .inr (0, 40, 72, 3),
  .inr (0, 40, 73, 3),
  .inr (0, 121, 74, 3),
  .inr (0, 120, 75, 3),
  .inr (0, 120, 76, 3),
  .inr (1, 60, 77, 3),
  .inl (4, [(0, 64, 4, 0), (0, 65, 4, 0), (0, 66, 4, 0), (0, 67, 4, 0), (2, 56, 0, 0), (2, 57, 0, 0), (2, 58, 0, 0), (2, 59, 0, 0), (2, 60, 0, 0), (2, 61, 0, 0), (2, 62, 0, 0), (2, 63, 0, 0), (2, 64, 0, 0), (2, 65, 0, 0)]),
  .inr (0, 40, 68, 4),
  .inr (0, 40, 69, 4),
  .inr (0, 40, 70, 4),
  .inr (0, 40, 71, 4),
  .inr (0, 40, 72, 4),
  .inr (0, 40, 73, 4),
  .inr (0, 121, 74, 4),
  .inr (0, 120, 75, 4),
  .inr (0, 120, 76, 4),
  .inr (1, 60, 77, 4),
  .inl (4, [(0, 64, 5, 0), (0, 65, 5, 0), (0, 66, 5, 0), (0, 67, 5, 0), (2, 67, 0, 0), (2, 68, 0, 0), (2, 69, 0, 0), (2, 70, 0, 0), (2, 71, 0, 0), (2, 72, 0, 0), (2, 73, 0, 0), (2, 74, 0, 0), (2, 75, 0, 0), (2, 76, 0, 0)]),
  .inr (0, 40, 68, 5),
  .inr (0, 40, 69, 5),
  .inr (0, 40, 70, 5),
  .inr (0, 40, 71, 5),
  .inr (0, 40, 72, 5),
  .inr (0, 40, 73, 5),
  .inr (0, 121, 74, 5),
  .inr (0, 120, 75, 5),
  .inr (0, 120, 76, 5),
  .inr (1, 60, 77, 5),
  .inl (4, [(0, 64, 6, 0), (0, 65, 6, 0), (0, 66, 6, 0), (0, 67, 6, 0), (2, 78, 0, 0), (2, 79, 0, 0), (2, 80, 0, 0), (2, 81, 0, 0), (2, 82, 0, 0), (2, 83, 0, 0), (2, 84, 0, 0), (2, 85, 0, 0), (2, 86, 0, 0), (2, 87, 0, 0)]),
  .inr (0, 40, 68, 6),
  .inr (0, 40, 69, 6),
  .inr (0, 40, 70, 6),
  .inr (0, 40, 71, 6),
  .inr (0, 40, 72, 6),
  .inr (0, 40, 73, 6),
  .inr (0, 121, 74, 6),
  .inr (0, 120, 75, 6),
  .inr (0, 120, 76, 6),
  .inr (1, 60, 77, 6),
  .inl (4, [(0, 64, 7, 0), (0, 65, 7, 0), (0, 66, 7, 0), (0, 67, 7, 0), (2, 89, 0, 0), (2, 90, 0, 0), (2, 91, 0, 0), (2, 92, 0, 0), (2, 93, 0, 0), (2, 94, 0, 0), (2, 95, 0, 0), (2, 96, 0, 0), (2, 97, 0, 0), (2, 98, 0, 0)]),
  .inr (0, 40, 68, 7),
  .inr (0, 40, 69, 7),
  .inr (0, 40, 70, 7),
  .inr (0, 40, 71, 7),
  .inr (0, 40, 72, 7),
  .inr (0, 40, 73, 7),
  .inr (0, 121, 74, 7),
  .inr (0, 120, 75, 7),
  .inr (0, 120, 76, 7),
  .inr (1, 60, 77, 7),
  .inl (4, [(0, 64, 8, 0), (0, 65, 8, 0), (0, 66, 8, 0), (0, 67, 8, 0), (2, 100, 0, 0), (2, 101, 0, 0), (2, 102, 0, 0), (2, 103, 0, 0), (2, 104, 0, 0), (2, 105, 0, 0), (2, 106, 0, 0), (2, 107, 0, 0), (2, 108, 0, 0), (2, 109, 0, 0)]),
  .inr (0, 40, 68, 8),
  .inr (0, 40, 69, 8),
  .inr (0, 40, 70, 8),
  .inr (0, 40, 71, 8),
  .inr (0, 40, 72, 8),
  .inr (0, 40, 73, 8),
  .inr (0, 121, 74, 8),
  .inr (0, 120, 75, 8),
  .inr (0, 120, 76, 8),
  .inr (1, 60, 77, 8),
  .inl (4, [(0, 64, 9, 0), (0, 65, 9, 0), (0, 66, 9, 0), (0, 67, 9, 0), (2, 111, 0, 0), (2, 112, 0, 0), (2, 113, 0, 0), (2, 114, 0, 0), (2, 115, 0, 0), (2, 116, 0, 0), (2, 117, 0, 0), (2, 118, 0, 0), (2, 119, 0, 0), (2, 120, 0, 0)]),
  .inr (0, 40, 68, 9),
  .inr (0, 40, 69, 9),
  .inr (0, 40, 70, 9),
  .inr (0, 40, 71, 9),
  .inr (0, 40, 72, 9),
  .inr (0, 40, 73, 9),
  .inr (0, 121, 74, 9),
  .inr (0, 120, 75, 9),
  .inr (0, 120, 76, 9),
  .inr (1, 60, 77, 9),
  .inl (4, [(0, 64, 10, 0), (0, 65, 10, 0), (0, 66, 10, 0), (0, 67, 10, 0), (2, 122, 0, 0), (2, 123, 0, 0), (2, 124, 0, 0), (2, 125, 0, 0), (2, 126, 0, 0), (2, 127, 0, 0), (2, 128, 0, 0), (2, 129, 0, 0), (2, 130, 0, 0), (2, 131, 0, 0)]),
  .inr (0, 40, 68, 10),
  .inr (0, 40, 69, 10),
  .inr (0, 40, 70, 10),
  .inr (0, 40, 71, 10),
  .inr (0, 40, 72, 10),
  .inr (0, 40, 73, 10),
  .inr (0, 121, 74, 10),
  .inr (0, 120, 75, 10),
  .inr (0, 120, 76, 10),
  .inr (1, 60, 77, 10),
  .inl (4, [(0, 64, 11, 0), (0, 65, 11, 0), (0, 66, 11, 0), (0, 67, 11, 0), (2, 133, 0, 0), (2, 134, 0, 0), (2, 135, 0, 0), (2, 136, 0, 0), (2, 137, 0, 0), (2, 138, 0, 0), (2, 139, 0, 0), (2, 140, 0, 0), (2, 141, 0, 0), (2, 142, 0, 0)]),
  .inr (0, 40, 68, 11),
  .inr (0, 40, 69, 11),
  .inr (0, 40, 70, 11),
  .inr (0, 40, 71, 11),
  .inr (0, 40, 72, 11),
  .inr (0, 40, 73, 11),
  .inr (0, 121, 74, 11),
  .inr (0, 120, 75, 11),
  .inr (0, 120, 76, 11),
  .inr (1, 60, 77, 11),
  .inl (7, [(2, 146, 0, 0), (2, 162, 0, 0), (2, 144, 0, 0), (2, 145, 0, 0), (2, 259, 0, 0)]),
  .inr (2, 8, 114, 0),
  .inr (1, 8, 115, 0),
  .inl (1, [(0, 16, 0, 0), (0, 17, 0, 0), (2, 147, 0, 0), (2, 148, 0, 0), (2, 149, 0, 0), (2, 150, 0, 0)]),
  .inr (0, 400, 18, 0),
  .inr (0, 400, 19, 0),
  .inr (0, 400, 20, 0),
  .inr (1, 400, 21, 0),
  .inl (4, [(0, 64, 12, 0), (0, 65, 12, 0), (0, 66, 12, 0), (0, 67, 12, 0), (2, 152, 0, 0), (2, 153, 0, 0), (2, 154, 0, 0), (2, 155, 0, 0), (2, 156, 0, 0), (2, 157, 0, 0), (2, 158, 0, 0), (2, 159, 0, 0), (2, 160, 0, 0), (2, 161, 0, 0)]),
  .inr (0, 40, 68, 12),
  .inr (0, 40, 69, 12),
  .inr (0, 40, 70, 12),
  .inr (0, 40, 71, 12),
  .inr (0, 40, 72, 12),
  .inr (0, 40, 73, 12),
  .inr (0, 121, 74, 12),
  .inr (0, 120, 75, 12),
  .inr (0, 120, 76, 12),
  .inr (1, 60, 77, 12),
  .inr (5, 6, 163, 16),
  .inl (2, [(0, 32, 0, 0), (2, 164, 0, 0), (2, 168, 0, 0), (2, 169, 0, 0), (2, 146, 0, 0), (3, 37, 0, 0), (0, 38, 0, 0), (0, 39, 0, 0), (0, 40, 0, 0), (0, 41, 0, 0), (0, 42, 0, 0), (1, 43, 0, 0), (0, 44, 0, 0), (1, 45, 0, 0), (0, 46, 0, 0)]),
  .inl (5, [(0, 80, 0, 0), (2, 165, 0, 0), (2, 166, 0, 0), (2, 167, 0, 0)]),
  .inr (0, 22, 81, 0),
  .inr (0, 22, 82, 0),
  .inr (1, 22, 83, 0),
  .inr (1, 10, 34, 0),
  .inr (6, 9, 170, 1),
  .inl (0, [(0, 0, 0, 0), (0, 1, 0, 0), (0, 2, 0, 0), (0, 3, 0, 0), (0, 4, 0, 0), (0, 5, 0, 0), (0, 6, 0, 0), (1, 7, 0, 0), (0, 8, 0, 0)]),
  .inl (0, [(0, 0, 0, 1), (0, 1, 0, 1), (0, 2, 0, 1), (0, 3, 0, 1), (0, 4, 0, 1), (0, 5, 0, 1), (0, 6, 0, 1), (1, 7, 0, 1), (0, 8, 0, 1)]),
  .inl (0, [(0, 0, 0, 2), (0, 1, 0, 2), (0, 2, 0, 2), (0, 3, 0, 2), (0, 4, 0, 2), (0, 5, 0, 2), (0, 6, 0, 2), (1, 7, 0, 2), (0, 8, 0, 2)]),
  .inl (0, [(0, 0, 0, 3), (0, 1, 0, 3), (0, 2, 0, 3), (0, 3, 0, 3), (0, 4, 0, 3), (0, 5, 0, 3), (0, 6, 0, 3), (1, 7, 0, 3), (0, 8, 0, 3)]),
  .inl (0, [(0, 0, 0, 4), (0, 1, 0, 4), (0, 2, 0, 4), (0, 3, 0, 4), (0, 4, 0, 4), (0, 5, 0, 4), (0, 6, 0, 4), (1, 7, 0, 4), (0, 8, 0, 4)]),
  .inl (0, [(0, 0, 0, 5), (0, 1, 0, 5), (0, 2, 0, 5), (0, 3, 0, 5), (0, 4, 0, 5), (0, 5, 0, 5), (0, 6, 0, 5), (1, 7, 0, 5), (0, 8, 0, 5)]),
  .inl (0, [(0, 0, 0, 6), (0, 1, 0, 6), (0, 2, 0, 6), (0, 3, 0, 6), (0, 4, 0, 6), (0, 5, 0, 6), (0, 6, 0, 6), (1, 7, 0, 6), (0, 8, 0, 6)]),
  .inl (0, [(0, 0, 0, 7), (0, 1, 0, 7), (0, 2, 0, 7), (0, 3, 0, 7), (0, 4, 0, 7), (0, 5, 0, 7), (0, 6, 0, 7), (1, 7, 0, 7), (0, 8, 0, 7)]),
  .inl (0, [(0, 0, 0, 8), (0, 1, 0, 8), (0, 2, 0, 8), (0, 3, 0, 8), (0, 4, 0, 8), (0, 5, 0, 8), (0, 6, 0, 8), (1, 7, 0, 8), (0, 8, 0, 8)]),
  .inl (2, [(0, 32, 1, 0), (2, 180, 0, 0), (2, 184, 0, 0), (2, 185, 0, 0), (2, 146, 0, 0), (3, 37, 1, 0), (0, 38, 1, 0), (0, 39, 1, 0), (0, 40, 1, 0), (0, 41, 1, 0), (0, 42, 1, 0), (1, 43, 1, 0), (0, 44, 1, 0), (1, 45, 1, 0), (0, 46, 1, 0)]),
  .inl (5, [(0, 80, 1, 0), (2, 181, 0, 0), (2, 182, 0, 0), (2, 183, 0, 0)]),
  .inr (0, 22, 81, 1),
  .inr (0, 22, 82, 1),
  .inr (1, 22, 83, 1),
  .inr (1, 10, 34, 1),
  .inr (6, 9, 186, 1),
  .inl (0, [(0, 0, 1, 0), (0, 1, 1, 0), (0, 2, 1, 0), (0, 3, 1, 0), (0, 4, 1, 0), (0, 5, 1, 0), (0, 6, 1, 0), (1, 7, 1, 0), (0, 8, 1, 0)]),
  .inl (0, [(0, 0, 1, 1), (0, 1, 1, 1), (0, 2, 1, 1), (0, 3, 1, 1), (0, 4, 1, 1), (0, 5, 1, 1), (0, 6, 1, 1), (1, 7, 1, 1), (0, 8, 1, 1)]),
  .inl (0, [(0, 0, 1, 2), (0, 1, 1, 2), (0, 2, 1, 2), (0, 3, 1, 2), (0, 4, 1, 2), (0, 5, 1, 2), (0, 6, 1, 2), (1, 7, 1, 2), (0, 8, 1, 2)]),
  .inl (0, [(0, 0, 1, 3), (0, 1, 1, 3), (0, 2, 1, 3), (0, 3, 1, 3), (0, 4, 1, 3), (0, 5, 1, 3), (0, 6, 1, 3), (1, 7, 1, 3), (0, 8, 1, 3)]),
  .inl (0, [(0, 0, 1, 4), (0, 1, 1, 4), (0, 2, 1, 4), (0, 3, 1, 4), (0, 4, 1, 4), (0, 5, 1, 4), (0, 6, 1, 4), (1, 7, 1, 4), (0, 8, 1, 4)]),
  .inl (0, [(0, 0, 1, 5), (0, 1, 1, 5), (0, 2, 1, 5), (0, 3, 1, 5), (0, 4, 1, 5), (0, 5, 1, 5), (0, 6, 1, 5), (1, 7, 1, 5), (0, 8, 1, 5)]),
  .inl (0, [(0, 0, 1, 6), (0, 1, 1, 6), (0, 2, 1, 6), (0, 3, 1, 6), (0, 4, 1, 6), (0, 5, 1, 6), (0, 6, 1, 6), (1, 7, 1, 6), (0, 8, 1, 6)]),
  .inl (0, [(0, 0, 1, 7), (0, 1, 1, 7), (0, 2, 1, 7), (0, 3, 1, 7), (0, 4, 1, 7), (0, 5, 1, 7), (0, 6, 1, 7), (1, 7, 1, 7), (0, 8, 1, 7)]),
  .inl (0, [(0, 0, 1, 8), (0, 1, 1, 8), (0, 2, 1, 8), (0, 3, 1, 8), (0, 4, 1, 8), (0, 5, 1, 8), (0, 6, 1, 8), (1, 7, 1, 8), (0, 8, 1, 8)]),
  .inl (2, [(0, 32, 2, 0), (2, 196, 0, 0), (2, 200, 0, 0), (2, 201, 0, 0), (2, 146, 0, 0), (3, 37, 2, 0), (0, 38, 2, 0), (0, 39, 2, 0), (0, 40, 2, 0), (0, 41, 2, 0), (0, 42, 2, 0), (1, 43, 2, 0), (0, 44, 2, 0), (1, 45, 2, 0), (0, 46, 2, 0)]),
  .inl (5, [(0, 80, 2, 0), (2, 197, 0, 0), (2, 198, 0, 0), (2, 199, 0, 0)]),
  .inr (0, 22, 81, 2),
  .inr (0, 22, 82, 2),
  .inr (1, 22, 83, 2),
  .inr (1, 10, 34, 2),
  .inr (6, 9, 202, 1),
  .inl (0, [(0, 0, 2, 0), (0, 1, 2, 0), (0, 2, 2, 0), (0, 3, 2, 0), (0, 4, 2, 0), (0, 5, 2, 0), (0, 6, 2, 0), (1, 7, 2, 0), (0, 8, 2, 0)]),
  .inl (0, [(0, 0, 2, 1), (0, 1, 2, 1), (0, 2, 2, 1), (0, 3, 2, 1), (0, 4, 2, 1), (0, 5, 2, 1), (0, 6, 2, 1), (1, 7, 2, 1), (0, 8, 2, 1)]),
  .inl (0, [(0, 0, 2, 2), (0, 1, 2, 2), (0, 2, 2, 2), (0, 3, 2, 2), (0, 4, 2, 2), (0, 5, 2, 2), (0, 6, 2, 2), (1, 7, 2, 2), (0, 8, 2, 2)]),
  .inl (0, [(0, 0, 2, 3), (0, 1, 2, 3), (0, 2, 2, 3), (0, 3, 2, 3), (0, 4, 2, 3), (0, 5, 2, 3), (0, 6, 2, 3), (1, 7, 2, 3), (0, 8, 2, 3)]),
  .inl (0, [(0, 0, 2, 4), (0, 1, 2, 4), (0, 2, 2, 4), (0, 3, 2, 4), (0, 4, 2, 4), (0, 5, 2, 4), (0, 6, 2, 4), (1, 7, 2, 4), (0, 8, 2, 4)]),
  .inl (0, [(0, 0, 2, 5), (0, 1, 2, 5), (0, 2, 2, 5), (0, 3, 2, 5), (0, 4, 2, 5), (0, 5, 2, 5), (0, 6, 2, 5), (1, 7, 2, 5), (0, 8, 2, 5)]),
  .inl (0, [(0, 0, 2, 6), (0, 1, 2, 6), (0, 2, 2, 6), (0, 3, 2, 6), (0, 4, 2, 6), (0, 5, 2, 6), (0, 6, 2, 6), (1, 7, 2, 6), (0, 8, 2, 6)]),
  .inl (0, [(0, 0, 2, 7), (0, 1, 2, 7), (0, 2, 2, 7), (0, 3, 2, 7), (0, 4, 2, 7), (0, 5, 2, 7), (0, 6, 2, 7), (1, 7, 2, 7), (0, 8, 2, 7)]),
  .inl (0, [(0, 0, 2, 8), (0, 1, 2, 8), (0, 2, 2, 8), (0, 3, 2, 8), (0, 4, 2, 8), (0, 5, 2, 8), (0, 6, 2, 8), (1, 7, 2, 8), (0, 8, 2, 8)]),
  .inl (2, [(0, 32, 3, 0), (2, 212, 0, 0), (2, 216, 0, 0), (2, 217, 0, 0), (2, 146, 0, 0), (3, 37, 3, 0), (0, 38, 3, 0), (0, 39, 3, 0), (0, 40, 3, 0), (0, 41, 3, 0), (0, 42, 3, 0), (1, 43, 3, 0), (0, 44, 3, 0), (1, 45, 3, 0), (0, 46, 3, 0)]),
  .inl (5, [(0, 80, 3, 0), (2, 213, 0, 0), (2, 214, 0, 0), (2, 215, 0, 0)]),
  .inr (0, 22, 81, 3),
  .inr (0, 22, 82, 3),
  .inr (1, 22, 83, 3),
  .inr (1, 10, 34, 3),
  .inr (6, 9, 218, 1),
  .inl (0, [(0, 0, 3, 0), (0, 1, 3, 0), (0, 2, 3, 0), (0, 3, 3, 0), (0, 4, 3, 0), (0, 5, 3, 0), (0, 6, 3, 0), (1, 7, 3, 0), (0, 8, 3, 0)]),
  .inl (0, [(0, 0, 3, 1), (0, 1, 3, 1), (0, 2, 3, 1), (0, 3, 3, 1), (0, 4, 3, 1), (0, 5, 3, 1), (0, 6, 3, 1), (1, 7, 3, 1), (0, 8, 3, 1)]),
  .inl (0, [(0, 0, 3, 2), (0, 1, 3, 2), (0, 2, 3, 2), (0, 3, 3, 2), (0, 4, 3, 2), (0, 5, 3, 2), (0, 6, 3, 2), (1, 7, 3, 2), (0, 8, 3, 2)]),
  .inl (0, [(0, 0, 3, 3), (0, 1, 3, 3), (0, 2, 3, 3), (0, 3, 3, 3), (0, 4, 3, 3), (0, 5, 3, 3), (0, 6, 3, 3), (1, 7, 3, 3), (0, 8, 3, 3)]),
  .inl (0, [(0, 0, 3, 4), (0, 1, 3, 4), (0, 2, 3, 4), (0, 3, 3, 4), (0, 4, 3, 4), (0, 5, 3, 4), (0, 6, 3, 4), (1, 7, 3, 4), (0, 8, 3, 4)]),
  .inl (0, [(0, 0, 3, 5), (0, 1, 3, 5), (0, 2, 3, 5), (0, 3, 3, 5), (0, 4, 3, 5), (0, 5, 3, 5), (0, 6, 3, 5), (1, 7, 3, 5), (0, 8, 3, 5)]),
  .inl (0, [(0, 0, 3, 6), (0, 1, 3, 6), (0, 2, 3, 6), (0, 3, 3, 6), (0, 4, 3, 6), (0, 5, 3, 6), (0, 6, 3, 6), (1, 7, 3, 6), (0, 8, 3, 6)]),
  .inl (0, [(0, 0, 3, 7), (0, 1, 3, 7), (0, 2, 3, 7), (0, 3, 3, 7), (0, 4, 3, 7), (0, 5, 3, 7), (0, 6, 3, 7), (1, 7, 3, 7), (0, 8, 3, 7)]),
  .inl (0, [(0, 0, 3, 8), (0, 1, 3, 8), (0, 2, 3, 8), (0, 3, 3, 8), (0, 4, 3, 8), (0, 5, 3, 8), (0, 6, 3, 8), (1, 7, 3, 8), (0, 8, 3, 8)]),
  .inl (2, [(0, 32, 4, 0), (2, 228, 0, 0), (2, 232, 0, 0), (2, 233, 0, 0), (2, 146, 0, 0), (3, 37, 4, 0), (0, 38, 4, 0), (0, 39, 4, 0), (0, 40, 4, 0), (0, 41, 4, 0), (0, 42, 4, 0), (1, 43, 4, 0), (0, 44, 4, 0), (1, 45, 4, 0), (0, 46, 4, 0)]),
  .inl (5, [(0, 80, 4, 0), (2, 229, 0, 0), (2, 230, 0, 0), (2, 231, 0, 0)]),
  .inr (0, 22, 81, 4),
  .inr (0, 22, 82, 4),
  .inr (1, 22, 83, 4),
  .inr (1, 10, 34, 4),
  .inr (6, 9, 234, 1),
  .inl (0, [(0, 0, 4, 0), (0, 1, 4, 0), (0, 2, 4, 0), (0, 3, 4, 0), (0, 4, 4, 0), (0, 5, 4, 0), (0, 6, 4, 0), (1, 7, 4, 0), (0, 8, 4, 0)]),
  .inl (0, [(0, 0, 4, 1), (0, 1, 4, 1), (0, 2, 4, 1), (0, 3, 4, 1), (0, 4, 4, 1), (0, 5, 4, 1), (0, 6, 4, 1), (1, 7, 4, 1), (0, 8, 4, 1)]),
  .inl (0, [(0, 0, 4, 2), (0, 1, 4, 2), (0, 2, 4, 2), (0, 3, 4, 2), (0, 4, 4, 2), (0, 5, 4, 2), (0, 6, 4, 2), (1, 7, 4, 2), (0, 8, 4, 2)]),
  .inl (0, [(0, 0, 4, 3), (0, 1, 4, 3), (0, 2, 4, 3), (0, 3, 4, 3), (0, 4, 4, 3), (0, 5, 4, 3), (0, 6, 4, 3), (1, 7, 4, 3), (0, 8, 4, 3)]),
  .inl (0, [(0, 0, 4, 4), (0, 1, 4, 4), (0, 2, 4, 4), (0, 3, 4, 4), (0, 4, 4, 4), (0, 5, 4, 4), (0, 6, 4, 4), (1, 7, 4, 4), (0, 8, 4, 4)]),
  .inl (0, [(0, 0, 4, 5), (0, 1, 4, 5), (0, 2, 4, 5), (0, 3, 4, 5), (0, 4, 4, 5), (0, 5, 4, 5), (0, 6, 4, 5), (1, 7, 4, 5), (0, 8, 4, 5)]),
  .inl (0, [(0, 0, 4, 6), (0, 1, 4, 6), (0, 2, 4, 6), (0, 3, 4, 6), (0, 4, 4, 6), (0, 5, 4, 6), (0, 6, 4, 6), (1, 7, 4, 6), (0, 8, 4, 6)]),
  .inl (0, [(0, 0, 4, 7), (0, 1, 4, 7), (0, 2, 4, 7), (0, 3, 4, 7), (0, 4, 4, 7), (0, 5, 4, 7), (0, 6, 4, 7), (1, 7, 4, 7), (0, 8, 4, 7)]),
  .inl (0, [(0, 0, 4, 8), (0, 1, 4, 8), (0, 2, 4, 8), (0, 3, 4, 8), (0, 4, 4, 8), (0, 5, 4, 8), (0, 6, 4, 8), (1, 7, 4, 8), (0, 8, 4, 8)]),
  .inl (2, [(0, 32, 5, 0), (2, 244, 0, 0), (2, 248, 0, 0), (2, 249, 0, 0), (2, 146, 0, 0), (3, 37, 5, 0), (0, 38, 5, 0), (0, 39, 5, 0), (0, 40, 5, 0), (0, 41, 5, 0), (0, 42, 5, 0), (1, 43, 5, 0), (0, 44, 5, 0), (1, 45, 5, 0), (0, 46, 5, 0)]),
  .inl (5, [(0, 80, 5, 0), (2, 245, 0, 0), (2, 246, 0, 0), (2, 247, 0, 0)]),
  .inr (0, 22, 81, 5),
  .inr (0, 22, 82, 5),
  .inr (1, 22, 83, 5),
  .inr (1, 10, 34, 5),
  .inr (6, 9, 250, 1),
  .inl (0, [(0, 0, 5, 0), (0, 1, 5, 0), (0, 2, 5, 0), (0, 3, 5, 0), (0, 4, 5, 0), (0, 5, 5, 0), (0, 6, 5, 0), (1, 7, 5, 0), (0, 8, 5, 0)]),
  .inl (0, [(0, 0, 5, 1), (0, 1, 5, 1), (0, 2, 5, 1), (0, 3, 5, 1), (0, 4, 5, 1), (0, 5, 5, 1), (0, 6, 5, 1), (1, 7, 5, 1), (0, 8, 5, 1)]),
  .inl (0, [(0, 0, 5, 2), (0, 1, 5, 2), (0, 2, 5, 2), (0, 3, 5, 2), (0, 4, 5, 2), (0, 5, 5, 2), (0, 6, 5, 2), (1, 7, 5, 2), (0, 8, 5, 2)]),
  .inl (0, [(0, 0, 5, 3), (0, 1, 5, 3), (0, 2, 5, 3), (0, 3, 5, 3), (0, 4, 5, 3), (0, 5, 5, 3), (0, 6, 5, 3), (1, 7, 5, 3), (0, 8, 5, 3)]),
  .inl (0, [(0, 0, 5, 4), (0, 1, 5, 4), (0, 2, 5, 4), (0, 3, 5, 4), (0, 4, 5, 4), (0, 5, 5, 4), (0, 6, 5, 4), (1, 7, 5, 4), (0, 8, 5, 4)]),
  .inl (0, [(0, 0, 5, 5), (0, 1, 5, 5), (0, 2, 5, 5), (0, 3, 5, 5), (0, 4, 5, 5), (0, 5, 5, 5), (0, 6, 5, 5), (1, 7, 5, 5), (0, 8, 5, 5)]),
  .inl (0, [(0, 0, 5, 6), (0, 1, 5, 6), (0, 2, 5, 6), (0, 3, 5, 6), (0, 4, 5, 6), (0, 5, 5, 6), (0, 6, 5, 6), (1, 7, 5, 6), (0, 8, 5, 6)]),
  .inl (0, [(0, 0, 5, 7), (0, 1, 5, 7), (0, 2, 5, 7), (0, 3, 5, 7), (0, 4, 5, 7), (0, 5, 5, 7), (0, 6, 5, 7), (1, 7, 5, 7), (0, 8, 5, 7)]),
  .inl (0, [(0, 0, 5, 8), (0, 1, 5, 8), (0, 2, 5, 8), (0, 3, 5, 8), (0, 4, 5, 8), (0, 5, 5, 8), (0, 6, 5, 8), (1, 7, 5, 8), (0, 8, 5, 8)]),
  .inl (2, [(0, 32, 6, 0), (2, 265, 0, 0), (2, 269, 0, 0), (2, 270, 0, 0), (2, 260, 0, 0), (3, 37, 6, 0), (0, 38, 6, 0), (0, 39, 6, 0), (0, 40, 6, 0), (0, 41, 6, 0), (0, 42, 6, 0), (1, 43, 6, 0), (0, 44, 6, 0), (1, 45, 6, 0), (0, 46, 6, 0)]),
  .inl (1, [(0, 16, 1, 0), (0, 17, 1, 0), (2, 261, 0, 0), (2, 262, 0, 0), (2, 263, 0, 0), (2, 264, 0, 0)]),
  .inr (0, 0, 18, 1),
  .inr (0, 0, 19, 1),
  .inr (0, 0, 20, 1),
  .inr (1, 0, 21, 1),
  .inl (5, [(0, 80, 6, 0), (2, 266, 0, 0), (2, 267, 0, 0), (2, 268, 0, 0)]),
  .inr (0, 22, 81, 6),
  .inr (0, 22, 82, 6),
  .inr (1, 22, 83, 6),
  .inr (1, 10, 34, 6),
  .inr (6, 9, 271, 1),
  .inl (0, [(0, 0, 6, 0), (0, 1, 6, 0), (0, 2, 6, 0), (0, 3, 6, 0), (0, 4, 6, 0), (0, 5, 6, 0), (0, 6, 6, 0), (1, 7, 6, 0), (0, 8, 6, 0)]),
  .inl (0, [(0, 0, 6, 1), (0, 1, 6, 1), (0, 2, 6, 1), (0, 3, 6, 1), (0, 4, 6, 1), (0, 5, 6, 1), (0, 6, 6, 1), (1, 7, 6, 1), (0, 8, 6, 1)]),
  .inl (0, [(0, 0, 6, 2), (0, 1, 6, 2), (0, 2, 6, 2), (0, 3, 6, 2), (0, 4, 6, 2), (0, 5, 6, 2), (0, 6, 6, 2), (1, 7, 6, 2), (0, 8, 6, 2)]),
  .inl (0, [(0, 0, 6, 3), (0, 1, 6, 3), (0, 2, 6, 3), (0, 3, 6, 3), (0, 4, 6, 3), (0, 5, 6, 3), (0, 6, 6, 3), (1, 7, 6, 3), (0, 8, 6, 3)]),
  .inl (0, [(0, 0, 6, 4), (0, 1, 6, 4), (0, 2, 6, 4), (0, 3, 6, 4), (0, 4, 6, 4), (0, 5, 6, 4), (0, 6, 6, 4), (1, 7, 6, 4), (0, 8, 6, 4)]),
  .inl (0, [(0, 0, 6, 5), (0, 1, 6, 5), (0, 2, 6, 5), (0, 3, 6, 5), (0, 4, 6, 5), (0, 5, 6, 5), (0, 6, 6, 5), (1, 7, 6, 5), (0, 8, 6, 5)]),
  .inl (0, [(0, 0, 6, 6), (0, 1, 6, 6), (0, 2, 6, 6), (0, 3, 6, 6), (0, 4, 6, 6), (0, 5, 6, 6), (0, 6, 6, 6), (1, 7, 6, 6), (0, 8, 6, 6)]),
  .inl (0, [(0, 0, 6, 7), (0, 1, 6, 7), (0, 2, 6, 7), (0, 3, 6, 7), (0, 4, 6, 7), (0, 5, 6, 7), (0, 6, 6, 7), (1, 7, 6, 7), (0, 8, 6, 7)]),
  .inl (0, [(0, 0, 6, 8), (0, 1, 6, 8), (0, 2, 6, 8), (0, 3, 6, 8), (0, 4, 6, 8), (0, 5, 6, 8), (0, 6, 6, 8), (1, 7, 6, 8), (0, 8, 6, 8)]),
  .inl (9, [(2, 281, 0, 0), (0, 201, 0, 0), (0, 202, 0, 0), (0, 203, 0, 0), (0, 204, 0, 0), (0, 205, 0, 0), (1, 206, 0, 0), (0, 207, 0, 0), (0, 208, 0, 0), (0, 209, 0, 0), (0, 210, 0, 0), (2, 282, 0, 0), (2, 283, 0, 0), (2, 284, 0, 0), (2, 285, 0, 0), (2, 286, 0, 0), (2, 287, 0, 0), (2, 288, 0, 0), (2, 289, 0, 0), (2, 290, 0, 0), (2, 291, 0, 0), (2, 292, 0, 0), (2, 293, 0, 0), (2, 294, 0, 0), (2, 295, 0, 0), (2, 296, 0, 0), (2, 297, 0, 0), (0, 227, 0, 0), (2, 298, 0, 0), (0, 229, 0, 0), (0, 230, 0, 0), (2, 299, 0, 0), (0, 232, 0, 0), (2, 300, 0, 0), (2, 301, 0, 0), (2, 302, 0, 0), (0, 236, 0, 0), (0, 237, 0, 0), (2, 303, 0, 0), (2, 304, 0, 0), (2, 305, 0, 0), (2, 306, 0, 0), (2, 307, 0, 0), (2, 308, 0, 0), (2, 309, 0, 0), (2, 310, 0, 0), (2, 311, 0, 0), (2, 312, 0, 0), (2, 313, 0, 0), (2, 314, 0, 0), (2, 315, 0, 0), (2, 316, 0, 0), (2, 317, 0, 0), (2, 318, 0, 0), (2, 319, 0, 0), (2, 320, 0, 0), (2, 321, 0, 0), (2, 322, 0, 0), (2, 323, 0, 0), (2, 324, 0, 0), (0, 260, 0, 0), (2, 325, 0, 0), (2, 326, 0, 0), (0, 263, 0, 0), (2, 327, 0, 0), (2, 328, 0, 0), (2, 329, 0, 0), (2, 330, 0, 0), (2, 331, 0, 0)]),
  .inr (3, 800, 200, 0),
  .inr (0, 12, 211, 0),
  .inr (0, 12, 212, 0),
  .inr (0, 12, 213, 0),
  .inr (0, 12, 214, 0),
  .inr (0, 12, 215, 0),
  .inr (0, 480, 216, 0),
  .inr (0, 480, 217, 0),
  .inr (0, 480, 218, 0),
  .inr (0, 1440, 219, 0),
  .inr (2, 1440, 220, 0),
  .inr (0, 480, 221, 0),
  .inr (0, 480, 222, 0),
  .inr (0, 480, 223, 0),
  .inr (0, 2400, 224, 0),
  .inr (0, 2400, 225, 0),
  .inr (1, 2400, 226, 0),
  .inr (0, 64, 228, 0),
  .inr (2, 16, 231, 0),
  .inr (0, 10, 233, 0),
  .inr (0, 10, 234, 0),
  .inr (0, 10, 235, 0),
  .inr (2, 8, 238, 0),
  .inr (1, 8, 239, 0),
  .inr (0, 7, 240, 0),
  .inr (0, 7, 241, 0),
  .inr (0, 7, 242, 0),
  .inr (0, 7, 243, 0),
  .inr (1, 7, 244, 0),
  .inr (1, 70, 245, 0),
  .inr (0, 7, 246, 0),
  .inr (0, 63, 247, 0),
  .inr (0, 63, 248, 0),
  .inr (0, 63, 249, 0),
  .inr (1, 63, 250, 0),
  .inr (2, 63, 251, 0),
  .inr (0, 63, 252, 0),
  .inr (1, 63, 253, 0),
  .inr (0, 63, 254, 0),
  .inr (0, 7, 255, 0),
  .inr (0, 224, 256, 0),
  .inr (1, 224, 257, 0),
  .inr (0, 224, 258, 0),
  .inr (0, 224, 259, 0),
  .inr (0, 7, 261, 0),
  .inr (0, 7, 262, 0),
  .inr (0, 400, 264, 0),
  .inr (0, 400, 265, 0),
  .inr (0, 400, 266, 0),
  .inr (1, 400, 267, 0),
  .inr (1, 64, 268, 0)]
def ow (id o e : Nat) : Nat :=
  if id < 16 then RW o + 6 + e
  else if id < 32 then (if id < 18 then CA o else CA o + (id - 17))
  else if id < 48 then (if id = 34 then RW o + 4 else FA o)
  else if id < 64 then 5
  else if id < 80 then (if id < 68 then PA o else PA o + (id - 67))
  else if id < 96 then RW o + (id - 80)
  else if id < 112 then (if id = 99 then 6 else 7 + (id - 96))
  else if id < 128 then (if id = 114 then 144 else 145)
  else if id < 200 then (if id = 128 then 4 else 3)
  else [281, 280, 280, 280, 280, 280, 280, 280, 280, 280, 280, 282, 283, 284, 285, 286, 287, 288, 289, 290, 291, 292, 293, 294, 295, 296, 297, 280, 298, 280, 280, 299, 280, 300, 301, 302, 280, 280, 303, 304, 305, 306, 307, 308, 309, 310, 311, 312, 313, 314, 315, 316, 317, 318, 319, 320, 321, 322, 323, 324, 280, 325, 326, 280, 327, 328, 329, 330, 331].getD (id - 200) 0
def sh (a : Nat) : Sh := if a < 3 then .inl (99, []) else shl.getD (a - 3) (.inl (99, []))
def mk (s : St) : Me := fun a => itc s (sh a)
def chkO (a : Nat) : Bool := match sh a with
  | .inl (_, ds) => ds.all (fun d => d.1 == 2 || ow d.2.1 d.2.2.1 d.2.2.2 == a) && va_nd ((ds.filter (fun d => !(d.1 == 2))).map (fun d => d.2.1))
  | .inr (t, _, id, o) => 4 ≤ t || (16 ≤ id && ow id o 0 == a)
theorem chk_all : ∀ a, a < 332 → chkO a = true := by decide +kernel
theorem shl_len : shl.length = 329 := by decide +kernel
theorem sh_out {a : Nat} (h : a < 3 ∨ 332 ≤ a) : sh a = .inl (99, []) := by
  unfold sh
  by_cases h3 : a < 3
  · rw [if_pos h3]
  · rw [if_neg h3, List.getD_eq_getElem?_getD, List.getElem?_eq_none (by rw [shl_len]; omega)]; rfl
theorem sh_in {a : Nat} {ci : Nat} {ds : List Ds} (hc : ci < 10) (h : sh a = .inl (ci, ds)) : 3 ≤ a ∧ a < 332 := by
  refine ⟨Nat.not_lt.mp fun q => ?_, Nat.not_le.mp fun q => ?_⟩
  · rw [sh_out (Or.inl q)] at h; cases h; omega
  · rw [sh_out (Or.inr q)] at h; cases h; omega
theorem sh_inA {a : Nat} {d : Ds} (h : sh a = .inr d) : 3 ≤ a ∧ a < 332 := by
  refine ⟨Nat.not_lt.mp fun q => ?_, Nat.not_le.mp fun q => ?_⟩
  · rw [sh_out (Or.inl q)] at h; cases h
  · rw [sh_out (Or.inr q)] at h; cases h
theorem ow_arr {id o e : Nat} (h : 16 ≤ id) : ow id o e = ow id o 0 := by
  have h2 : ¬ id < 16 := by omega
  simp only [ow, if_neg h2]
theorem chk_obj {a ci : Nat} {ds : List Ds} (h : sh a = .inl (ci, ds)) : (∀ d ∈ ds, d.1 = 2 ∨ ow d.2.1 d.2.2.1 d.2.2.2 = a) ∧ va_nd ((ds.filter (fun d => !(d.1 == 2))).map (fun d => d.2.1)) = true := by
  by_cases ha : a < 332
  · have h1 := chk_all a ha
    unfold chkO at h1
    rw [h] at h1
    simp only [Bool.and_eq_true, List.all_eq_true, Bool.or_eq_true, beq_iff_eq] at h1
    exact ⟨h1.1, h1.2⟩
  · rw [sh_out (Or.inr (by omega))] at h
    cases h
    exact ⟨fun d hd => absurd hd List.not_mem_nil, rfl⟩
theorem chk_arr {a t N id o : Nat} (h : sh a = .inr (t, N, id, o)) : 4 ≤ t ∨ (16 ≤ id ∧ ∀ e, ow id o e = a) := by
  have ha := (sh_inA h).2
  have h1 := chk_all a ha
  unfold chkO at h1
  rw [h] at h1
  simp only [Bool.and_eq_true, Bool.or_eq_true, beq_iff_eq, decide_eq_true_eq] at h1
  rcases h1 with h1 | h1
  · exact Or.inl h1
  · exact Or.inr ⟨h1.1, fun e => (ow_arr h1.1).trans h1.2⟩
theorem si_ne {s : St} {id o e id2 o2 e2 : Nat} {v : Int32} (h : ¬ (id2 = id ∧ o2 = o ∧ e2 = e)) : (si s id o e v).1 id2 o2 e2 = s.1 id2 o2 e2 := if_neg h
theorem si_eq {s : St} {id o e : Nat} {v : Int32} : (si s id o e v).1 id o e = v := if_pos ⟨rfl, rfl, rfl⟩
theorem sl_ne {s : St} {id o e id2 o2 e2 : Nat} {v : Int64} (h : ¬ (id2 = id ∧ o2 = o ∧ e2 = e)) : (sl s id o e v).2 id2 o2 e2 = s.2 id2 o2 e2 := if_neg h
theorem sl_eq {s : St} {id o e : Nat} {v : Int64} : (sl s id o e v).2 id o e = v := if_pos ⟨rfl, rfl, rfl⟩
theorem itv_ne {s : St} {id o e : Nat} {v : Int32} {w : Int64} {d : Ds} (h : d.1 = 2 ∨ ¬ (d.2.1 = id ∧ d.2.2.1 = o ∧ d.2.2.2 = e)) : itv (si s id o e v) d = itv s d ∧ itv (sl s id o e w) d = itv s d := by
  have i2 : (si s id o e v).2 = s.2 := rfl
  have l1 : (sl s id o e w).1 = s.1 := rfl
  rcases h with h | h
  · have n0 : ¬ d.1 = 0 := by omega
    have n1 : ¬ d.1 = 1 := by omega
    simp only [itv, if_neg n0, if_neg n1, if_pos h]
    exact ⟨trivial, trivial⟩
  · simp only [itv, si_ne h, sl_ne h, i2, l1]
    exact ⟨trivial, trivial⟩
/-- a cell that the place isn't in stays -/
theorem mk_ne {s : St} {id o e a : Nat} {v : Int32} {w : Int64} (h : ow id o e ≠ a) : mk (si s id o e v) a = mk s a ∧ mk (sl s id o e w) a = mk s a := by
  unfold mk
  cases hs : sh a with
  | inl q =>
    obtain ⟨ci, ds⟩ := q
    have hc := (chk_obj hs).1
    have key : ∀ d ∈ ds, d.1 = 2 ∨ ¬ (d.2.1 = id ∧ d.2.2.1 = o ∧ d.2.2.2 = e) := fun d hd => by
      rcases hc d hd with h1 | h1
      · exact Or.inl h1
      · refine Or.inr (fun z => h ?_)
        obtain ⟨z1, z2, z3⟩ := z
        rw [← h1, z1, z2, z3]
    refine ⟨?_, ?_⟩
    · simp only [itc]
      congr 2
      exact List.map_congr_left (fun d hd => (itv_ne (w := w) (key d hd)).1)
    · simp only [itc]
      congr 2
      exact List.map_congr_left (fun d hd => (itv_ne (v := v) (key d hd)).2)
  | inr q =>
    obtain ⟨t, N, id2, o2⟩ := q
    rcases chk_arr hs with h1 | ⟨-, h1⟩
    · simp only [itc]
      rw [if_neg (by omega), if_neg (by omega), if_neg (by omega), if_neg (by omega), if_neg (by omega), if_neg (by omega)]
      exact ⟨rfl, rfl⟩
    · have key : ∀ e2, ¬ (id2 = id ∧ o2 = o ∧ e2 = e) := fun e2 z => h (by obtain ⟨z1, z2, z3⟩ := z; rw [← h1 e, z1, z2])
      have k1 : (si s id o e v).1 id2 o2 = s.1 id2 o2 := funext fun e2 => si_ne (key e2)
      have k2 : (sl s id o e w).2 id2 o2 = s.2 id2 o2 := funext fun e2 => sl_ne (key e2)
      refine ⟨?_, ?_⟩
      · simp only [itc, k1]; rfl
      · simp only [itc, k2]; rfl
/-- a place of an object -/
theorem ds_set {ds : List Ds} {f id o e kd : Nat} (hn : va_nd ((ds.filter (fun d => !(d.1 == 2))).map (fun d => d.2.1)) = true) (hk : kd ≠ 2) (h : ds[f]? = some (kd, id, o, e)) (s : St) (s2 : St) (hne : ∀ d : Ds, (d.1 = 2 ∨ ¬ d.2.1 = id) → itv s2 d = itv s d) : ds.map (itv s2) = (ds.map (itv s)).set f (itv s2 (kd, id, o, e)) := by
  induction ds generalizing f with
  | nil => simp at h
  | cons d ds ih =>
    cases f with
    | zero =>
      simp only [List.getElem?_cons_zero, Option.some.injEq] at h
      subst h
      simp only [List.map_cons, List.set_cons_zero]
      congr 1
      apply List.map_congr_left
      intro d hd
      apply hne
      by_cases h2 : d.1 = 2
      · exact Or.inl h2
      · refine Or.inr (fun z => ?_)
        rw [List.filter_cons_of_pos (by simp [hk]), List.map_cons] at hn
        simp only [va_nd, Bool.and_eq_true, decide_eq_true_eq] at hn
        exact hn.1 (List.mem_map.mpr ⟨d, List.mem_filter.mpr ⟨hd, by simp [h2]⟩, z⟩)
    | succ f =>
      simp only [List.getElem?_cons_succ] at h
      have hmem : (kd, id, o, e) ∈ ds := List.mem_of_getElem? h
      have hn2 : va_nd ((ds.filter (fun d => !(d.1 == 2))).map (fun d => d.2.1)) = true := by
        by_cases h2 : d.1 = 2
        · rw [List.filter_cons_of_neg (by simp [h2])] at hn; exact hn
        · rw [List.filter_cons_of_pos (by simp [h2]), List.map_cons] at hn
          simp only [va_nd, Bool.and_eq_true] at hn
          exact hn.2
      simp only [List.map_cons, List.set_cons_succ]
      congr 1
      · apply hne
        by_cases h2 : d.1 = 2
        · exact Or.inl h2
        · refine Or.inr (fun z => ?_)
          rw [List.filter_cons_of_pos (by simp [h2]), List.map_cons] at hn
          simp only [va_nd, Bool.and_eq_true, decide_eq_true_eq] at hn
          exact hn.1 (List.mem_map.mpr ⟨(kd, id, o, e), List.mem_filter.mpr ⟨hmem, by simp [hk]⟩, z.symm⟩)
      · exact ih hn2 h
theorem mk_puti {s : St} {a ci f id o e : Nat} {ds : List Ds} {v : Int32} (hs : sh a = .inl (ci, ds)) (hf : ds[f]? = some (0, id, o, e)) : va_up (mk s) a (.inr (ci, (ds.map (itv s)).set f (.int v))) = mk (si s id o e v) := by
  obtain ⟨hc, hn⟩ := chk_obj hs
  have ho : ow id o e = a := (hc _ (List.mem_of_getElem? hf)).resolve_left (Nat.ne_of_beq_eq_false rfl)
  funext b
  by_cases hb : b = a
  · subst hb
    rw [va_up_self]
    show _ = itc _ (sh b)
    rw [hs]
    simp only [itc]
    rw [ds_set hn (by decide) hf s (si s id o e v) (fun d hd => (itv_ne (w := 0) (hd.imp_right (fun z1 z2 => z1 z2.1))).1)]
    have e9 : itv (si s id o e v) (0, id, o, e) = .int v := congrArg Value.int si_eq
    rw [e9]
  · rw [va_up_ne _ _ hb]
    exact ((mk_ne (w := 0) (by rw [ho]; exact fun z => hb z.symm)).1).symm
theorem mk_putl {s : St} {a ci f id o e : Nat} {ds : List Ds} {v : Int64} (hs : sh a = .inl (ci, ds)) (hf : ds[f]? = some (1, id, o, e)) : va_up (mk s) a (.inr (ci, (ds.map (itv s)).set f (.long v))) = mk (sl s id o e v) := by
  obtain ⟨hc, hn⟩ := chk_obj hs
  have ho : ow id o e = a := (hc _ (List.mem_of_getElem? hf)).resolve_left (Nat.ne_of_beq_eq_false rfl)
  funext b
  by_cases hb : b = a
  · subst hb
    rw [va_up_self]
    show _ = itc _ (sh b)
    rw [hs]
    simp only [itc]
    rw [ds_set hn (by decide) hf s (sl s id o e v) (fun d hd => (itv_ne (v := 0) (hd.imp_right (fun z1 z2 => z1 z2.1))).2)]
    have e9 : itv (sl s id o e v) (1, id, o, e) = .long v := congrArg Value.long sl_eq
    rw [e9]
  · rw [va_up_ne _ _ hb]
    exact ((mk_ne (v := 0) (by rw [ho]; exact fun z => hb z.symm)).2).symm
theorem mk_putp {s : St} {a ci f id o e p : Nat} {ds : List Ds} (hp0 : p < 13) (hs : sh a = .inl (ci, ds)) (hf : ds[f]? = some (3, id, o, e)) : va_up (mk s) a (.inr (ci, (ds.map (itv s)).set f (.ref (PA p)))) = mk (si s id o e (nI p)) := by
  obtain ⟨hc, hn⟩ := chk_obj hs
  have ho : ow id o e = a := (hc _ (List.mem_of_getElem? hf)).resolve_left (Nat.ne_of_beq_eq_false rfl)
  funext b
  by_cases hb : b = a
  · subst hb
    rw [va_up_self]
    show _ = itc _ (sh b)
    rw [hs]
    simp only [itc]
    rw [ds_set hn (by decide) hf s (si s id o e (nI p)) (fun d hd => (itv_ne (w := 0) (hd.imp_right (fun z1 z2 => z1 z2.1))).1)]
    have e9 : itv (si s id o e (nI p)) (3, id, o, e) = .ref (PA p) := by
      show itp ((si s id o e (nI p)).1 id o e) = _
      rw [si_eq, itp, if_neg (nI_pos (by omega)), nI_clamp (by omega)]
    rw [e9]
  · rw [va_up_ne _ _ hb]
    exact ((mk_ne (w := 0) (by rw [ho]; exact fun z => hb z.symm)).1).symm
theorem mk_asti {s : St} {a t N id o k : Nat} {v : Int32} (ht : t < 4 ∧ t ≠ 1) (hs : sh a = .inr (t, N, id, o)) : va_up (mk s) a (.inl (t, N, .inl (upd (s.1 id o) k v))) = mk (si s id o k v) := by
  have ho : ∀ e, ow id o e = a := ((chk_arr hs).resolve_left (by omega)).2
  funext b
  by_cases hb : b = a
  · subst hb
    rw [va_up_self]
    show _ = itc _ (sh b)
    rw [hs]
    simp only [itc]
    rw [if_neg ht.2, if_pos ht.1]
    congr 4
    funext e
    unfold upd si
    by_cases he : e = k <;> simp [he]
  · rw [va_up_ne _ _ hb]
    exact ((mk_ne (w := 0) (by rw [ho]; exact fun z => hb z.symm)).1).symm
theorem mk_astl {s : St} {a N id o k : Nat} {v : Int64} (hs : sh a = .inr (1, N, id, o)) : va_up (mk s) a (.inl (1, N, .inr (.inl (vp_updL (s.2 id o) k v)))) = mk (sl s id o k v) := by
  have ho : ∀ e, ow id o e = a := ((chk_arr hs).resolve_left (by omega)).2
  funext b
  by_cases hb : b = a
  · subst hb
    rw [va_up_self]
    show _ = itc _ (sh b)
    rw [hs]
    simp only [itc]
    rw [if_pos trivial]
    congr 5
    funext e
    unfold vp_updL sl
    by_cases he : e = k <;> simp [he]
  · rw [va_up_ne _ _ hb]
    exact ((mk_ne (v := 0) (by rw [ho]; exact fun z => hb z.symm)).2).symm
end
