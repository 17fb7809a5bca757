section
-- ===== PART A: goes FIRST, ahead of the names: the tables' words, and 'selects' of the private methods out of them =====
/-- a private method of a class that the tables say can be made, by its rows of tables_1 -/
def lw_okq (q : MethodName × Nat) : Prop := (q.1.cls ≠ "java/lang/invoke/MethodHandle" ∧ q.1.cls ≠ "java/lang/invoke/VarHandle") ∧ Cond.instantiable q.1.cls q.2 ∈ tables_1 ∧ Cond.privateMethod q.1 ∈ tables_1 ∧ Cond.instanceMethod q.1 ∈ tables_1
theorem lw_p0 : lw_okq (⟨"MaskedThrows", "putOnTape", "(I)V"⟩, 7) := ⟨⟨by decide +kernel, by decide +kernel⟩, List.mem_of_getElem? (i := 17) (by decide +kernel), List.mem_of_getElem? (i := 367) (by decide +kernel), List.mem_of_getElem? (i := 368) (by decide +kernel)⟩
theorem lw_p1 : lw_okq (⟨"MaskedThrows$Tokens", "addLetters", "([III)V"⟩, 4) := ⟨⟨by decide +kernel, by decide +kernel⟩, List.mem_of_getElem? (i := 31) (by decide +kernel), List.mem_of_getElem? (i := 390) (by decide +kernel), List.mem_of_getElem? (i := 391) (by decide +kernel)⟩
theorem lw_p2 : lw_okq (⟨"MaskedThrows$Tokens", "addToken", "(III)V"⟩, 4) := ⟨⟨by decide +kernel, by decide +kernel⟩, List.mem_of_getElem? (i := 31) (by decide +kernel), List.mem_of_getElem? (i := 441) (by decide +kernel), List.mem_of_getElem? (i := 442) (by decide +kernel)⟩
theorem lw_p3 : lw_okq (⟨"MaskedThrows$Tokens", "addDigits", "([III)V"⟩, 4) := ⟨⟨by decide +kernel, by decide +kernel⟩, List.mem_of_getElem? (i := 31) (by decide +kernel), List.mem_of_getElem? (i := 448) (by decide +kernel), List.mem_of_getElem? (i := 449) (by decide +kernel)⟩
theorem lw_p4 : lw_okq (⟨"MaskedThrows$Parser", "statements", "(III)Z"⟩, 3) := ⟨⟨by decide +kernel, by decide +kernel⟩, List.mem_of_getElem? (i := 25) (by decide +kernel), List.mem_of_getElem? (i := 468) (by decide +kernel), List.mem_of_getElem? (i := 469) (by decide +kernel)⟩
theorem lw_p5 : lw_okq (⟨"MaskedThrows$Parser", "statement", "(I)Z"⟩, 3) := ⟨⟨by decide +kernel, by decide +kernel⟩, List.mem_of_getElem? (i := 25) (by decide +kernel), List.mem_of_getElem? (i := 472) (by decide +kernel), List.mem_of_getElem? (i := 473) (by decide +kernel)⟩
theorem lw_p6 : lw_okq (⟨"MaskedThrows$Parser", "isLocal", "(I)Z"⟩, 3) := ⟨⟨by decide +kernel, by decide +kernel⟩, List.mem_of_getElem? (i := 25) (by decide +kernel), List.mem_of_getElem? (i := 483) (by decide +kernel), List.mem_of_getElem? (i := 484) (by decide +kernel)⟩
theorem lw_p7 : lw_okq (⟨"MaskedThrows$Parser", "is", "(I)Z"⟩, 3) := ⟨⟨by decide +kernel, by decide +kernel⟩, List.mem_of_getElem? (i := 25) (by decide +kernel), List.mem_of_getElem? (i := 487) (by decide +kernel), List.mem_of_getElem? (i := 488) (by decide +kernel)⟩
theorem lw_p8 : lw_okq (⟨"MaskedThrows$Parser", "isExpOf", "(I)Z"⟩, 3) := ⟨⟨by decide +kernel, by decide +kernel⟩, List.mem_of_getElem? (i := 25) (by decide +kernel), List.mem_of_getElem? (i := 491) (by decide +kernel), List.mem_of_getElem? (i := 492) (by decide +kernel)⟩
theorem lw_p9 : lw_okq (⟨"MaskedThrows$Parser", "isExp", "(I)Z"⟩, 3) := ⟨⟨by decide +kernel, by decide +kernel⟩, List.mem_of_getElem? (i := 25) (by decide +kernel), List.mem_of_getElem? (i := 495) (by decide +kernel), List.mem_of_getElem? (i := 496) (by decide +kernel)⟩
theorem lw_p10 : lw_okq (⟨"MaskedThrows$Parser", "isSum", "(I)Z"⟩, 3) := ⟨⟨by decide +kernel, by decide +kernel⟩, List.mem_of_getElem? (i := 25) (by decide +kernel), List.mem_of_getElem? (i := 499) (by decide +kernel), List.mem_of_getElem? (i := 500) (by decide +kernel)⟩
theorem lw_p11 : lw_okq (⟨"MaskedThrows$Parser", "isProduct", "(I)Z"⟩, 3) := ⟨⟨by decide +kernel, by decide +kernel⟩, List.mem_of_getElem? (i := 25) (by decide +kernel), List.mem_of_getElem? (i := 503) (by decide +kernel), List.mem_of_getElem? (i := 504) (by decide +kernel)⟩
theorem lw_p12 : lw_okq (⟨"MaskedThrows$Parser", "isUnary", "(I)Z"⟩, 3) := ⟨⟨by decide +kernel, by decide +kernel⟩, List.mem_of_getElem? (i := 25) (by decide +kernel), List.mem_of_getElem? (i := 507) (by decide +kernel), List.mem_of_getElem? (i := 508) (by decide +kernel)⟩
theorem lw_p13 : lw_okq (⟨"MaskedThrows$Parser", "isCondition", "(I)Z"⟩, 3) := ⟨⟨by decide +kernel, by decide +kernel⟩, List.mem_of_getElem? (i := 25) (by decide +kernel), List.mem_of_getElem? (i := 515) (by decide +kernel), List.mem_of_getElem? (i := 516) (by decide +kernel)⟩
theorem lw_p14 : lw_okq (⟨"MaskedThrows$Parser", "isBody", "(III)Z"⟩, 3) := ⟨⟨by decide +kernel, by decide +kernel⟩, List.mem_of_getElem? (i := 25) (by decide +kernel), List.mem_of_getElem? (i := 519) (by decide +kernel), List.mem_of_getElem? (i := 520) (by decide +kernel)⟩
theorem lw_p15 : lw_okq (⟨"MaskedThrows$Parser", "mayHaveElse", "(II)Z"⟩, 3) := ⟨⟨by decide +kernel, by decide +kernel⟩, List.mem_of_getElem? (i := 25) (by decide +kernel), List.mem_of_getElem? (i := 526) (by decide +kernel), List.mem_of_getElem? (i := 527) (by decide +kernel)⟩
def lw_privs_1 : List (MethodName × Nat) := [(⟨"MaskedThrows", "putOnTape", "(I)V"⟩, 7), (⟨"MaskedThrows$Tokens", "addLetters", "([III)V"⟩, 4), (⟨"MaskedThrows$Tokens", "addToken", "(III)V"⟩, 4), (⟨"MaskedThrows$Tokens", "addDigits", "([III)V"⟩, 4), (⟨"MaskedThrows$Parser", "statements", "(III)Z"⟩, 3), (⟨"MaskedThrows$Parser", "statement", "(I)Z"⟩, 3), (⟨"MaskedThrows$Parser", "isLocal", "(I)Z"⟩, 3), (⟨"MaskedThrows$Parser", "is", "(I)Z"⟩, 3), (⟨"MaskedThrows$Parser", "isExpOf", "(I)Z"⟩, 3), (⟨"MaskedThrows$Parser", "isExp", "(I)Z"⟩, 3), (⟨"MaskedThrows$Parser", "isSum", "(I)Z"⟩, 3), (⟨"MaskedThrows$Parser", "isProduct", "(I)Z"⟩, 3), (⟨"MaskedThrows$Parser", "isUnary", "(I)Z"⟩, 3), (⟨"MaskedThrows$Parser", "isCondition", "(I)Z"⟩, 3), (⟨"MaskedThrows$Parser", "isBody", "(III)Z"⟩, 3), (⟨"MaskedThrows$Parser", "mayHaveElse", "(II)Z"⟩, 3)]
theorem lw_r1 : ∀ q ∈ lw_privs_1, lw_okq q := List.forall_mem_cons.mpr ⟨lw_p0, List.forall_mem_cons.mpr ⟨lw_p1, List.forall_mem_cons.mpr ⟨lw_p2, List.forall_mem_cons.mpr ⟨lw_p3, List.forall_mem_cons.mpr ⟨lw_p4, List.forall_mem_cons.mpr ⟨lw_p5, List.forall_mem_cons.mpr ⟨lw_p6, List.forall_mem_cons.mpr ⟨lw_p7, List.forall_mem_cons.mpr ⟨lw_p8, List.forall_mem_cons.mpr ⟨lw_p9, List.forall_mem_cons.mpr ⟨lw_p10, List.forall_mem_cons.mpr ⟨lw_p11, List.forall_mem_cons.mpr ⟨lw_p12, List.forall_mem_cons.mpr ⟨lw_p13, List.forall_mem_cons.mpr ⟨lw_p14, List.forall_mem_cons.mpr ⟨lw_p15, fun _ h => absurd h List.not_mem_nil⟩⟩⟩⟩⟩⟩⟩⟩⟩⟩⟩⟩⟩⟩⟩⟩
theorem lw_p16 : lw_okq (⟨"MaskedThrows$Parser", "isNumberOf", "(III)Z"⟩, 3) := ⟨⟨by decide +kernel, by decide +kernel⟩, List.mem_of_getElem? (i := 25) (by decide +kernel), List.mem_of_getElem? (i := 530) (by decide +kernel), List.mem_of_getElem? (i := 531) (by decide +kernel)⟩
theorem lw_p17 : lw_okq (⟨"MaskedThrows", "isProgram", "(I)Z"⟩, 7) := ⟨⟨by decide +kernel, by decide +kernel⟩, List.mem_of_getElem? (i := 17) (by decide +kernel), List.mem_of_getElem? (i := 544) (by decide +kernel), List.mem_of_getElem? (i := 545) (by decide +kernel)⟩
theorem lw_p18 : lw_okq (⟨"MaskedThrows", "runs", "(I)Z"⟩, 7) := ⟨⟨by decide +kernel, by decide +kernel⟩, List.mem_of_getElem? (i := 17) (by decide +kernel), List.mem_of_getElem? (i := 555) (by decide +kernel), List.mem_of_getElem? (i := 556) (by decide +kernel)⟩
theorem lw_p19 : lw_okq (⟨"MaskedThrows$Fiber", "leaveAll", "()V"⟩, 15) := ⟨⟨by decide +kernel, by decide +kernel⟩, List.mem_of_getElem? (i := 180) (by decide +kernel), List.mem_of_getElem? (i := 567) (by decide +kernel), List.mem_of_getElem? (i := 568) (by decide +kernel)⟩
theorem lw_p20 : lw_okq (⟨"MaskedThrows$World", "step", "(LMaskedThrows$Fiber;)I"⟩, 5) := ⟨⟨by decide +kernel, by decide +kernel⟩, List.mem_of_getElem? (i := 136) (by decide +kernel), List.mem_of_getElem? (i := 595) (by decide +kernel), List.mem_of_getElem? (i := 596) (by decide +kernel)⟩
theorem lw_p21 : lw_okq (⟨"MaskedThrows$Fiber", "goOver", "(LMaskedThrows$Body;II)V"⟩, 15) := ⟨⟨by decide +kernel, by decide +kernel⟩, List.mem_of_getElem? (i := 180) (by decide +kernel), List.mem_of_getElem? (i := 607) (by decide +kernel), List.mem_of_getElem? (i := 608) (by decide +kernel)⟩
theorem lw_p22 : lw_okq (⟨"MaskedThrows$Fiber", "goToLast", "(LMaskedThrows$Body;)V"⟩, 15) := ⟨⟨by decide +kernel, by decide +kernel⟩, List.mem_of_getElem? (i := 180) (by decide +kernel), List.mem_of_getElem? (i := 620) (by decide +kernel), List.mem_of_getElem? (i := 621) (by decide +kernel)⟩
theorem lw_p23 : lw_okq (⟨"MaskedThrows$Fiber", "leave", "()V"⟩, 15) := ⟨⟨by decide +kernel, by decide +kernel⟩, List.mem_of_getElem? (i := 180) (by decide +kernel), List.mem_of_getElem? (i := 625) (by decide +kernel), List.mem_of_getElem? (i := 626) (by decide +kernel)⟩
theorem lw_p24 : lw_okq (⟨"MaskedThrows$Fiber", "forgetTimeout", "(LMaskedThrows$Body;)V"⟩, 15) := ⟨⟨by decide +kernel, by decide +kernel⟩, List.mem_of_getElem? (i := 180) (by decide +kernel), List.mem_of_getElem? (i := 629) (by decide +kernel), List.mem_of_getElem? (i := 630) (by decide +kernel)⟩
theorem lw_p25 : lw_okq (⟨"MaskedThrows$World", "takeFromRow", "(LMaskedThrows$Fiber;)I"⟩, 5) := ⟨⟨by decide +kernel, by decide +kernel⟩, List.mem_of_getElem? (i := 136) (by decide +kernel), List.mem_of_getElem? (i := 645) (by decide +kernel), List.mem_of_getElem? (i := 646) (by decide +kernel)⟩
theorem lw_p26 : lw_okq (⟨"MaskedThrows$World", "breakSend", "(LMaskedThrows$Fiber;)V"⟩, 5) := ⟨⟨by decide +kernel, by decide +kernel⟩, List.mem_of_getElem? (i := 136) (by decide +kernel), List.mem_of_getElem? (i := 649) (by decide +kernel), List.mem_of_getElem? (i := 650) (by decide +kernel)⟩
theorem lw_p27 : lw_okq (⟨"MaskedThrows$World", "perform", "(LMaskedThrows$Fiber;I)I"⟩, 5) := ⟨⟨by decide +kernel, by decide +kernel⟩, List.mem_of_getElem? (i := 136) (by decide +kernel), List.mem_of_getElem? (i := 664) (by decide +kernel), List.mem_of_getElem? (i := 665) (by decide +kernel)⟩
theorem lw_p28 : lw_okq (⟨"MaskedThrows$World", "takeFromBox", "(LMaskedThrows$Fiber;I)I"⟩, 5) := ⟨⟨by decide +kernel, by decide +kernel⟩, List.mem_of_getElem? (i := 136) (by decide +kernel), List.mem_of_getElem? (i := 680) (by decide +kernel), List.mem_of_getElem? (i := 681) (by decide +kernel)⟩
theorem lw_p29 : lw_okq (⟨"MaskedThrows$World", "waits", "(LMaskedThrows$Fiber;I)Z"⟩, 5) := ⟨⟨by decide +kernel, by decide +kernel⟩, List.mem_of_getElem? (i := 136) (by decide +kernel), List.mem_of_getElem? (i := 684) (by decide +kernel), List.mem_of_getElem? (i := 685) (by decide +kernel)⟩
theorem lw_p30 : lw_okq (⟨"MaskedThrows$World", "putInBox", "(LMaskedThrows$Fiber;I)I"⟩, 5) := ⟨⟨by decide +kernel, by decide +kernel⟩, List.mem_of_getElem? (i := 136) (by decide +kernel), List.mem_of_getElem? (i := 688) (by decide +kernel), List.mem_of_getElem? (i := 689) (by decide +kernel)⟩
theorem lw_p31 : lw_okq (⟨"MaskedThrows$World", "sendValue", "(LMaskedThrows$Fiber;I)I"⟩, 5) := ⟨⟨by decide +kernel, by decide +kernel⟩, List.mem_of_getElem? (i := 136) (by decide +kernel), List.mem_of_getElem? (i := 695) (by decide +kernel), List.mem_of_getElem? (i := 696) (by decide +kernel)⟩
def lw_privs_2 : List (MethodName × Nat) := [(⟨"MaskedThrows$Parser", "isNumberOf", "(III)Z"⟩, 3), (⟨"MaskedThrows", "isProgram", "(I)Z"⟩, 7), (⟨"MaskedThrows", "runs", "(I)Z"⟩, 7), (⟨"MaskedThrows$Fiber", "leaveAll", "()V"⟩, 15), (⟨"MaskedThrows$World", "step", "(LMaskedThrows$Fiber;)I"⟩, 5), (⟨"MaskedThrows$Fiber", "goOver", "(LMaskedThrows$Body;II)V"⟩, 15), (⟨"MaskedThrows$Fiber", "goToLast", "(LMaskedThrows$Body;)V"⟩, 15), (⟨"MaskedThrows$Fiber", "leave", "()V"⟩, 15), (⟨"MaskedThrows$Fiber", "forgetTimeout", "(LMaskedThrows$Body;)V"⟩, 15), (⟨"MaskedThrows$World", "takeFromRow", "(LMaskedThrows$Fiber;)I"⟩, 5), (⟨"MaskedThrows$World", "breakSend", "(LMaskedThrows$Fiber;)V"⟩, 5), (⟨"MaskedThrows$World", "perform", "(LMaskedThrows$Fiber;I)I"⟩, 5), (⟨"MaskedThrows$World", "takeFromBox", "(LMaskedThrows$Fiber;I)I"⟩, 5), (⟨"MaskedThrows$World", "waits", "(LMaskedThrows$Fiber;I)Z"⟩, 5), (⟨"MaskedThrows$World", "putInBox", "(LMaskedThrows$Fiber;I)I"⟩, 5), (⟨"MaskedThrows$World", "sendValue", "(LMaskedThrows$Fiber;I)I"⟩, 5)]
theorem lw_r2 : ∀ q ∈ lw_privs_2, lw_okq q := List.forall_mem_cons.mpr ⟨lw_p16, List.forall_mem_cons.mpr ⟨lw_p17, List.forall_mem_cons.mpr ⟨lw_p18, List.forall_mem_cons.mpr ⟨lw_p19, List.forall_mem_cons.mpr ⟨lw_p20, List.forall_mem_cons.mpr ⟨lw_p21, List.forall_mem_cons.mpr ⟨lw_p22, List.forall_mem_cons.mpr ⟨lw_p23, List.forall_mem_cons.mpr ⟨lw_p24, List.forall_mem_cons.mpr ⟨lw_p25, List.forall_mem_cons.mpr ⟨lw_p26, List.forall_mem_cons.mpr ⟨lw_p27, List.forall_mem_cons.mpr ⟨lw_p28, List.forall_mem_cons.mpr ⟨lw_p29, List.forall_mem_cons.mpr ⟨lw_p30, List.forall_mem_cons.mpr ⟨lw_p31, fun _ h => absurd h List.not_mem_nil⟩⟩⟩⟩⟩⟩⟩⟩⟩⟩⟩⟩⟩⟩⟩⟩
theorem lw_p32 : lw_okq (⟨"MaskedThrows$Fiber", "stops", "(LMaskedThrows$Body;)Z"⟩, 15) := ⟨⟨by decide +kernel, by decide +kernel⟩, List.mem_of_getElem? (i := 180) (by decide +kernel), List.mem_of_getElem? (i := 705) (by decide +kernel), List.mem_of_getElem? (i := 706) (by decide +kernel)⟩
theorem lw_p33 : lw_okq (⟨"MaskedThrows$Fiber", "perish", "()I"⟩, 15) := ⟨⟨by decide +kernel, by decide +kernel⟩, List.mem_of_getElem? (i := 180) (by decide +kernel), List.mem_of_getElem? (i := 710) (by decide +kernel), List.mem_of_getElem? (i := 711) (by decide +kernel)⟩
theorem lw_p34 : lw_okq (⟨"MaskedThrows", "isInRow", "(II)Z"⟩, 7) := ⟨⟨by decide +kernel, by decide +kernel⟩, List.mem_of_getElem? (i := 17) (by decide +kernel), List.mem_of_getElem? (i := 764) (by decide +kernel), List.mem_of_getElem? (i := 765) (by decide +kernel)⟩
theorem lw_p35 : lw_okq (⟨"MaskedThrows$World", "wouldStep", "(LMaskedThrows$Fiber;)Z"⟩, 5) := ⟨⟨by decide +kernel, by decide +kernel⟩, List.mem_of_getElem? (i := 136) (by decide +kernel), List.mem_of_getElem? (i := 780) (by decide +kernel), List.mem_of_getElem? (i := 781) (by decide +kernel)⟩
theorem lw_p36 : lw_okq (⟨"MaskedThrows", "isNote", "(I)Z"⟩, 7) := ⟨⟨by decide +kernel, by decide +kernel⟩, List.mem_of_getElem? (i := 17) (by decide +kernel), List.mem_of_getElem? (i := 808) (by decide +kernel), List.mem_of_getElem? (i := 809) (by decide +kernel)⟩
theorem lw_p37 : lw_okq (⟨"MaskedThrowsModel", "readText", "()V"⟩, 69) := ⟨⟨by decide +kernel, by decide +kernel⟩, List.mem_of_getElem? (i := 825) (by decide +kernel), List.mem_of_getElem? (i := 1051) (by decide +kernel), List.mem_of_getElem? (i := 1052) (by decide +kernel)⟩
theorem lw_p38 : lw_okq (⟨"MaskedThrowsModel", "next", "()V"⟩, 69) := ⟨⟨by decide +kernel, by decide +kernel⟩, List.mem_of_getElem? (i := 825) (by decide +kernel), List.mem_of_getElem? (i := 1055) (by decide +kernel), List.mem_of_getElem? (i := 1056) (by decide +kernel)⟩
theorem lw_p39 : lw_okq (⟨"MaskedThrowsModel", "byteAt", "(I)I"⟩, 69) := ⟨⟨by decide +kernel, by decide +kernel⟩, List.mem_of_getElem? (i := 825) (by decide +kernel), List.mem_of_getElem? (i := 1059) (by decide +kernel), List.mem_of_getElem? (i := 1060) (by decide +kernel)⟩
theorem lw_p40 : lw_okq (⟨"MaskedThrowsModel", "isSign", "(I)Z"⟩, 69) := ⟨⟨by decide +kernel, by decide +kernel⟩, List.mem_of_getElem? (i := 825) (by decide +kernel), List.mem_of_getElem? (i := 1096) (by decide +kernel), List.mem_of_getElem? (i := 1097) (by decide +kernel)⟩
theorem lw_p41 : lw_okq (⟨"MaskedThrowsModel", "misplaced", "()V"⟩, 69) := ⟨⟨by decide +kernel, by decide +kernel⟩, List.mem_of_getElem? (i := 825) (by decide +kernel), List.mem_of_getElem? (i := 1100) (by decide +kernel), List.mem_of_getElem? (i := 1101) (by decide +kernel)⟩
theorem lw_p42 : lw_okq (⟨"MaskedThrowsModel", "closeBody", "()V"⟩, 69) := ⟨⟨by decide +kernel, by decide +kernel⟩, List.mem_of_getElem? (i := 825) (by decide +kernel), List.mem_of_getElem? (i := 1104) (by decide +kernel), List.mem_of_getElem? (i := 1105) (by decide +kernel)⟩
theorem lw_p43 : lw_okq (⟨"MaskedThrowsModel", "takeWord", "(I)V"⟩, 69) := ⟨⟨by decide +kernel, by decide +kernel⟩, List.mem_of_getElem? (i := 825) (by decide +kernel), List.mem_of_getElem? (i := 1108) (by decide +kernel), List.mem_of_getElem? (i := 1109) (by decide +kernel)⟩
theorem lw_p44 : lw_okq (⟨"MaskedThrowsModel", "openBody", "(II)V"⟩, 69) := ⟨⟨by decide +kernel, by decide +kernel⟩, List.mem_of_getElem? (i := 825) (by decide +kernel), List.mem_of_getElem? (i := 1112) (by decide +kernel), List.mem_of_getElem? (i := 1113) (by decide +kernel)⟩
theorem lw_p45 : lw_okq (⟨"MaskedThrowsModel", "takeLocal", "()V"⟩, 69) := ⟨⟨by decide +kernel, by decide +kernel⟩, List.mem_of_getElem? (i := 825) (by decide +kernel), List.mem_of_getElem? (i := 1116) (by decide +kernel), List.mem_of_getElem? (i := 1117) (by decide +kernel)⟩
theorem lw_p46 : lw_okq (⟨"MaskedThrowsModel", "isLocal", "()Z"⟩, 69) := ⟨⟨by decide +kernel, by decide +kernel⟩, List.mem_of_getElem? (i := 825) (by decide +kernel), List.mem_of_getElem? (i := 1120) (by decide +kernel), List.mem_of_getElem? (i := 1121) (by decide +kernel)⟩
theorem lw_p47 : lw_okq (⟨"MaskedThrowsModel", "readStatement", "()V"⟩, 69) := ⟨⟨by decide +kernel, by decide +kernel⟩, List.mem_of_getElem? (i := 825) (by decide +kernel), List.mem_of_getElem? (i := 1124) (by decide +kernel), List.mem_of_getElem? (i := 1125) (by decide +kernel)⟩
def lw_privs_3 : List (MethodName × Nat) := [(⟨"MaskedThrows$Fiber", "stops", "(LMaskedThrows$Body;)Z"⟩, 15), (⟨"MaskedThrows$Fiber", "perish", "()I"⟩, 15), (⟨"MaskedThrows", "isInRow", "(II)Z"⟩, 7), (⟨"MaskedThrows$World", "wouldStep", "(LMaskedThrows$Fiber;)Z"⟩, 5), (⟨"MaskedThrows", "isNote", "(I)Z"⟩, 7), (⟨"MaskedThrowsModel", "readText", "()V"⟩, 69), (⟨"MaskedThrowsModel", "next", "()V"⟩, 69), (⟨"MaskedThrowsModel", "byteAt", "(I)I"⟩, 69), (⟨"MaskedThrowsModel", "isSign", "(I)Z"⟩, 69), (⟨"MaskedThrowsModel", "misplaced", "()V"⟩, 69), (⟨"MaskedThrowsModel", "closeBody", "()V"⟩, 69), (⟨"MaskedThrowsModel", "takeWord", "(I)V"⟩, 69), (⟨"MaskedThrowsModel", "openBody", "(II)V"⟩, 69), (⟨"MaskedThrowsModel", "takeLocal", "()V"⟩, 69), (⟨"MaskedThrowsModel", "isLocal", "()Z"⟩, 69), (⟨"MaskedThrowsModel", "readStatement", "()V"⟩, 69)]
theorem lw_r3 : ∀ q ∈ lw_privs_3, lw_okq q := List.forall_mem_cons.mpr ⟨lw_p32, List.forall_mem_cons.mpr ⟨lw_p33, List.forall_mem_cons.mpr ⟨lw_p34, List.forall_mem_cons.mpr ⟨lw_p35, List.forall_mem_cons.mpr ⟨lw_p36, List.forall_mem_cons.mpr ⟨lw_p37, List.forall_mem_cons.mpr ⟨lw_p38, List.forall_mem_cons.mpr ⟨lw_p39, List.forall_mem_cons.mpr ⟨lw_p40, List.forall_mem_cons.mpr ⟨lw_p41, List.forall_mem_cons.mpr ⟨lw_p42, List.forall_mem_cons.mpr ⟨lw_p43, List.forall_mem_cons.mpr ⟨lw_p44, List.forall_mem_cons.mpr ⟨lw_p45, List.forall_mem_cons.mpr ⟨lw_p46, List.forall_mem_cons.mpr ⟨lw_p47, fun _ h => absurd h List.not_mem_nil⟩⟩⟩⟩⟩⟩⟩⟩⟩⟩⟩⟩⟩⟩⟩⟩
theorem lw_p48 : lw_okq (⟨"MaskedThrowsModel", "newStatement", "()I"⟩, 69) := ⟨⟨by decide +kernel, by decide +kernel⟩, List.mem_of_getElem? (i := 825) (by decide +kernel), List.mem_of_getElem? (i := 1131) (by decide +kernel), List.mem_of_getElem? (i := 1132) (by decide +kernel)⟩
theorem lw_p49 : lw_okq (⟨"MaskedThrowsModel", "take", "(I)V"⟩, 69) := ⟨⟨by decide +kernel, by decide +kernel⟩, List.mem_of_getElem? (i := 825) (by decide +kernel), List.mem_of_getElem? (i := 1135) (by decide +kernel), List.mem_of_getElem? (i := 1136) (by decide +kernel)⟩
theorem lw_p50 : lw_okq (⟨"MaskedThrowsModel", "readEnd", "(I)V"⟩, 69) := ⟨⟨by decide +kernel, by decide +kernel⟩, List.mem_of_getElem? (i := 825) (by decide +kernel), List.mem_of_getElem? (i := 1139) (by decide +kernel), List.mem_of_getElem? (i := 1140) (by decide +kernel)⟩
theorem lw_p51 : lw_okq (⟨"MaskedThrowsModel", "exp", "()I"⟩, 69) := ⟨⟨by decide +kernel, by decide +kernel⟩, List.mem_of_getElem? (i := 825) (by decide +kernel), List.mem_of_getElem? (i := 1143) (by decide +kernel), List.mem_of_getElem? (i := 1144) (by decide +kernel)⟩
theorem lw_p52 : lw_okq (⟨"MaskedThrowsModel", "readUnary", "()Z"⟩, 69) := ⟨⟨by decide +kernel, by decide +kernel⟩, List.mem_of_getElem? (i := 825) (by decide +kernel), List.mem_of_getElem? (i := 1147) (by decide +kernel), List.mem_of_getElem? (i := 1148) (by decide +kernel)⟩
theorem lw_p53 : lw_okq (⟨"MaskedThrowsModel", "act", "(IIJ)V"⟩, 69) := ⟨⟨by decide +kernel, by decide +kernel⟩, List.mem_of_getElem? (i := 825) (by decide +kernel), List.mem_of_getElem? (i := 1151) (by decide +kernel), List.mem_of_getElem? (i := 1152) (by decide +kernel)⟩
theorem lw_p54 : lw_okq (⟨"MaskedThrowsModel", "operandIsThere", "()V"⟩, 69) := ⟨⟨by decide +kernel, by decide +kernel⟩, List.mem_of_getElem? (i := 825) (by decide +kernel), List.mem_of_getElem? (i := 1155) (by decide +kernel), List.mem_of_getElem? (i := 1156) (by decide +kernel)⟩
theorem lw_p55 : lw_okq (⟨"MaskedThrowsModel", "reduce", "(I)V"⟩, 69) := ⟨⟨by decide +kernel, by decide +kernel⟩, List.mem_of_getElem? (i := 825) (by decide +kernel), List.mem_of_getElem? (i := 1159) (by decide +kernel), List.mem_of_getElem? (i := 1160) (by decide +kernel)⟩
theorem lw_p56 : lw_okq (⟨"MaskedThrowsModel", "takeBox", "(I)V"⟩, 69) := ⟨⟨by decide +kernel, by decide +kernel⟩, List.mem_of_getElem? (i := 825) (by decide +kernel), List.mem_of_getElem? (i := 1166) (by decide +kernel), List.mem_of_getElem? (i := 1167) (by decide +kernel)⟩
theorem lw_p57 : lw_okq (⟨"MaskedThrowsModel", "takeNumber", "(IJ)V"⟩, 69) := ⟨⟨by decide +kernel, by decide +kernel⟩, List.mem_of_getElem? (i := 825) (by decide +kernel), List.mem_of_getElem? (i := 1171) (by decide +kernel), List.mem_of_getElem? (i := 1172) (by decide +kernel)⟩
theorem lw_p58 : lw_okq (⟨"MaskedThrowsModel", "turnOnce", "(I)I"⟩, 69) := ⟨⟨by decide +kernel, by decide +kernel⟩, List.mem_of_getElem? (i := 825) (by decide +kernel), List.mem_of_getElem? (i := 1195) (by decide +kernel), List.mem_of_getElem? (i := 1196) (by decide +kernel)⟩
theorem lw_p59 : lw_okq (⟨"MaskedThrowsModel", "timeouts", "()V"⟩, 69) := ⟨⟨by decide +kernel, by decide +kernel⟩, List.mem_of_getElem? (i := 825) (by decide +kernel), List.mem_of_getElem? (i := 1199) (by decide +kernel), List.mem_of_getElem? (i := 1200) (by decide +kernel)⟩
theorem lw_p60 : lw_okq (⟨"MaskedThrowsModel", "toRow", "(IIJII)V"⟩, 69) := ⟨⟨by decide +kernel, by decide +kernel⟩, List.mem_of_getElem? (i := 825) (by decide +kernel), List.mem_of_getElem? (i := 1203) (by decide +kernel), List.mem_of_getElem? (i := 1204) (by decide +kernel)⟩
theorem lw_p61 : lw_okq (⟨"MaskedThrowsModel", "turnOf", "(I)I"⟩, 69) := ⟨⟨by decide +kernel, by decide +kernel⟩, List.mem_of_getElem? (i := 825) (by decide +kernel), List.mem_of_getElem? (i := 1207) (by decide +kernel), List.mem_of_getElem? (i := 1208) (by decide +kernel)⟩
theorem lw_p62 : lw_okq (⟨"MaskedThrowsModel", "settle", "(I)Z"⟩, 69) := ⟨⟨by decide +kernel, by decide +kernel⟩, List.mem_of_getElem? (i := 825) (by decide +kernel), List.mem_of_getElem? (i := 1211) (by decide +kernel), List.mem_of_getElem? (i := 1212) (by decide +kernel)⟩
theorem lw_p63 : lw_okq (⟨"MaskedThrowsModel", "leave", "(I)V"⟩, 69) := ⟨⟨by decide +kernel, by decide +kernel⟩, List.mem_of_getElem? (i := 825) (by decide +kernel), List.mem_of_getElem? (i := 1215) (by decide +kernel), List.mem_of_getElem? (i := 1216) (by decide +kernel)⟩
def lw_privs_4 : List (MethodName × Nat) := [(⟨"MaskedThrowsModel", "newStatement", "()I"⟩, 69), (⟨"MaskedThrowsModel", "take", "(I)V"⟩, 69), (⟨"MaskedThrowsModel", "readEnd", "(I)V"⟩, 69), (⟨"MaskedThrowsModel", "exp", "()I"⟩, 69), (⟨"MaskedThrowsModel", "readUnary", "()Z"⟩, 69), (⟨"MaskedThrowsModel", "act", "(IIJ)V"⟩, 69), (⟨"MaskedThrowsModel", "operandIsThere", "()V"⟩, 69), (⟨"MaskedThrowsModel", "reduce", "(I)V"⟩, 69), (⟨"MaskedThrowsModel", "takeBox", "(I)V"⟩, 69), (⟨"MaskedThrowsModel", "takeNumber", "(IJ)V"⟩, 69), (⟨"MaskedThrowsModel", "turnOnce", "(I)I"⟩, 69), (⟨"MaskedThrowsModel", "timeouts", "()V"⟩, 69), (⟨"MaskedThrowsModel", "toRow", "(IIJII)V"⟩, 69), (⟨"MaskedThrowsModel", "turnOf", "(I)I"⟩, 69), (⟨"MaskedThrowsModel", "settle", "(I)Z"⟩, 69), (⟨"MaskedThrowsModel", "leave", "(I)V"⟩, 69)]
theorem lw_r4 : ∀ q ∈ lw_privs_4, lw_okq q := List.forall_mem_cons.mpr ⟨lw_p48, List.forall_mem_cons.mpr ⟨lw_p49, List.forall_mem_cons.mpr ⟨lw_p50, List.forall_mem_cons.mpr ⟨lw_p51, List.forall_mem_cons.mpr ⟨lw_p52, List.forall_mem_cons.mpr ⟨lw_p53, List.forall_mem_cons.mpr ⟨lw_p54, List.forall_mem_cons.mpr ⟨lw_p55, List.forall_mem_cons.mpr ⟨lw_p56, List.forall_mem_cons.mpr ⟨lw_p57, List.forall_mem_cons.mpr ⟨lw_p58, List.forall_mem_cons.mpr ⟨lw_p59, List.forall_mem_cons.mpr ⟨lw_p60, List.forall_mem_cons.mpr ⟨lw_p61, List.forall_mem_cons.mpr ⟨lw_p62, List.forall_mem_cons.mpr ⟨lw_p63, fun _ h => absurd h List.not_mem_nil⟩⟩⟩⟩⟩⟩⟩⟩⟩⟩⟩⟩⟩⟩⟩⟩
theorem lw_p64 : lw_okq (⟨"MaskedThrowsModel", "fromRow", "(II)V"⟩, 69) := ⟨⟨by decide +kernel, by decide +kernel⟩, List.mem_of_getElem? (i := 825) (by decide +kernel), List.mem_of_getElem? (i := 1219) (by decide +kernel), List.mem_of_getElem? (i := 1220) (by decide +kernel)⟩
theorem lw_p65 : lw_okq (⟨"MaskedThrowsModel", "note0", "(IIJ)V"⟩, 69) := ⟨⟨by decide +kernel, by decide +kernel⟩, List.mem_of_getElem? (i := 825) (by decide +kernel), List.mem_of_getElem? (i := 1223) (by decide +kernel), List.mem_of_getElem? (i := 1224) (by decide +kernel)⟩
theorem lw_p66 : lw_okq (⟨"MaskedThrowsModel", "goIn", "(IIII)V"⟩, 69) := ⟨⟨by decide +kernel, by decide +kernel⟩, List.mem_of_getElem? (i := 825) (by decide +kernel), List.mem_of_getElem? (i := 1227) (by decide +kernel), List.mem_of_getElem? (i := 1228) (by decide +kernel)⟩
theorem lw_p67 : lw_okq (⟨"MaskedThrowsModel", "throwOut", "(IZJI)Z"⟩, 69) := ⟨⟨by decide +kernel, by decide +kernel⟩, List.mem_of_getElem? (i := 825) (by decide +kernel), List.mem_of_getElem? (i := 1235) (by decide +kernel), List.mem_of_getElem? (i := 1236) (by decide +kernel)⟩
theorem lw_p68 : lw_okq (⟨"MaskedThrowsModel", "dropSerial", "(II)V"⟩, 69) := ⟨⟨by decide +kernel, by decide +kernel⟩, List.mem_of_getElem? (i := 825) (by decide +kernel), List.mem_of_getElem? (i := 1239) (by decide +kernel), List.mem_of_getElem? (i := 1240) (by decide +kernel)⟩
theorem lw_p69 : lw_okq (⟨"MaskedThrowsModel", "thrown", "(Z)I"⟩, 69) := ⟨⟨by decide +kernel, by decide +kernel⟩, List.mem_of_getElem? (i := 825) (by decide +kernel), List.mem_of_getElem? (i := 1243) (by decide +kernel), List.mem_of_getElem? (i := 1244) (by decide +kernel)⟩
theorem lw_p70 : lw_okq (⟨"MaskedThrowsModel", "throwFirst", "(I)I"⟩, 69) := ⟨⟨by decide +kernel, by decide +kernel⟩, List.mem_of_getElem? (i := 825) (by decide +kernel), List.mem_of_getElem? (i := 1247) (by decide +kernel), List.mem_of_getElem? (i := 1248) (by decide +kernel)⟩
theorem lw_p71 : lw_okq (⟨"MaskedThrowsModel", "work", "(II)J"⟩, 69) := ⟨⟨by decide +kernel, by decide +kernel⟩, List.mem_of_getElem? (i := 825) (by decide +kernel), List.mem_of_getElem? (i := 1251) (by decide +kernel), List.mem_of_getElem? (i := 1252) (by decide +kernel)⟩
theorem lw_p72 : lw_okq (⟨"MaskedThrowsModel", "waits", "(I)I"⟩, 69) := ⟨⟨by decide +kernel, by decide +kernel⟩, List.mem_of_getElem? (i := 825) (by decide +kernel), List.mem_of_getElem? (i := 1255) (by decide +kernel), List.mem_of_getElem? (i := 1256) (by decide +kernel)⟩
theorem lw_p73 : lw_okq (⟨"MaskedThrowsModel", "waitsToSend", "(II)Z"⟩, 69) := ⟨⟨by decide +kernel, by decide +kernel⟩, List.mem_of_getElem? (i := 825) (by decide +kernel), List.mem_of_getElem? (i := 1259) (by decide +kernel), List.mem_of_getElem? (i := 1260) (by decide +kernel)⟩
theorem lw_p74 : lw_okq (⟨"MaskedThrowsModel", "stands", "(II)Z"⟩, 69) := ⟨⟨by decide +kernel, by decide +kernel⟩, List.mem_of_getElem? (i := 825) (by decide +kernel), List.mem_of_getElem? (i := 1263) (by decide +kernel), List.mem_of_getElem? (i := 1264) (by decide +kernel)⟩
theorem lw_p75 : lw_okq (⟨"MaskedThrowsModel", "isInRow", "(II)Z"⟩, 69) := ⟨⟨by decide +kernel, by decide +kernel⟩, List.mem_of_getElem? (i := 825) (by decide +kernel), List.mem_of_getElem? (i := 1308) (by decide +kernel), List.mem_of_getElem? (i := 1309) (by decide +kernel)⟩
theorem lw_p76 : lw_okq (⟨"MaskedThrowsModel", "wouldStep", "(I)Z"⟩, 69) := ⟨⟨by decide +kernel, by decide +kernel⟩, List.mem_of_getElem? (i := 825) (by decide +kernel), List.mem_of_getElem? (i := 1320) (by decide +kernel), List.mem_of_getElem? (i := 1321) (by decide +kernel)⟩
theorem lw_p77 : lw_okq (⟨"MaskedThrowsModel", "copyToSpare", "(I)V"⟩, 69) := ⟨⟨by decide +kernel, by decide +kernel⟩, List.mem_of_getElem? (i := 825) (by decide +kernel), List.mem_of_getElem? (i := 1324) (by decide +kernel), List.mem_of_getElem? (i := 1325) (by decide +kernel)⟩
def lw_privs_5 : List (MethodName × Nat) := [(⟨"MaskedThrowsModel", "fromRow", "(II)V"⟩, 69), (⟨"MaskedThrowsModel", "note0", "(IIJ)V"⟩, 69), (⟨"MaskedThrowsModel", "goIn", "(IIII)V"⟩, 69), (⟨"MaskedThrowsModel", "throwOut", "(IZJI)Z"⟩, 69), (⟨"MaskedThrowsModel", "dropSerial", "(II)V"⟩, 69), (⟨"MaskedThrowsModel", "thrown", "(Z)I"⟩, 69), (⟨"MaskedThrowsModel", "throwFirst", "(I)I"⟩, 69), (⟨"MaskedThrowsModel", "work", "(II)J"⟩, 69), (⟨"MaskedThrowsModel", "waits", "(I)I"⟩, 69), (⟨"MaskedThrowsModel", "waitsToSend", "(II)Z"⟩, 69), (⟨"MaskedThrowsModel", "stands", "(II)Z"⟩, 69), (⟨"MaskedThrowsModel", "isInRow", "(II)Z"⟩, 69), (⟨"MaskedThrowsModel", "wouldStep", "(I)Z"⟩, 69), (⟨"MaskedThrowsModel", "copyToSpare", "(I)V"⟩, 69)]
theorem lw_r5 : ∀ q ∈ lw_privs_5, lw_okq q := List.forall_mem_cons.mpr ⟨lw_p64, List.forall_mem_cons.mpr ⟨lw_p65, List.forall_mem_cons.mpr ⟨lw_p66, List.forall_mem_cons.mpr ⟨lw_p67, List.forall_mem_cons.mpr ⟨lw_p68, List.forall_mem_cons.mpr ⟨lw_p69, List.forall_mem_cons.mpr ⟨lw_p70, List.forall_mem_cons.mpr ⟨lw_p71, List.forall_mem_cons.mpr ⟨lw_p72, List.forall_mem_cons.mpr ⟨lw_p73, List.forall_mem_cons.mpr ⟨lw_p74, List.forall_mem_cons.mpr ⟨lw_p75, List.forall_mem_cons.mpr ⟨lw_p76, List.forall_mem_cons.mpr ⟨lw_p77, fun _ h => absurd h List.not_mem_nil⟩⟩⟩⟩⟩⟩⟩⟩⟩⟩⟩⟩⟩⟩
def lw_privs : List (MethodName × Nat) := lw_privs_1 ++ (lw_privs_2 ++ (lw_privs_3 ++ (lw_privs_4 ++ (lw_privs_5))))
def lw_tbl : List Cond := k2_sels lw_privs ++ tables_1
theorem lw_privs_ok : ∀ q ∈ lw_privs, lw_okq q := by
  show ∀ q ∈ lw_privs_1 ++ (lw_privs_2 ++ (lw_privs_3 ++ (lw_privs_4 ++ (lw_privs_5)))), lw_okq q
  exact List.forall_mem_append.mpr ⟨lw_r1, List.forall_mem_append.mpr ⟨lw_r2, List.forall_mem_append.mpr ⟨lw_r3, List.forall_mem_append.mpr ⟨lw_r4, lw_r5⟩⟩⟩⟩
/-! names: words, classes, methods, links (by program out of the tables) -/
def gw : List Cond := lw_tbl.filter goodWord
theorem gw_mem {w : Cond} (h : w ∈ lw_tbl) (g : goodWord w = true) : w ∈ gw := List.mem_filter.mpr ⟨h, g⟩
theorem gw_t {w : Cond} {i : Nat} (h : tables_1[i]? = some w) (g : goodWord w = true) : w ∈ gw := gw_mem (List.mem_append_right _ (List.mem_of_getElem? h)) g
theorem gw_p {w : Cond} {i : Nat} (h : (k2_sels lw_privs)[i]? = some w) (g : goodWord w = true) : w ∈ gw := gw_mem (List.mem_append_left _ (List.mem_of_getElem? h)) g
theorem gw_good {w : Cond} (h : w ∈ gw) : (w.onTables && w.keeps) = true ∨ ∃ ty, w = .arrayClass ty := good_of_word (List.mem_filter.mp h).2
def fT0 : u_T := fun k => match k with
  | 0 => ("MaskedThrows$Body", "owner", "I", false)
  | 1 => ("MaskedThrows$Body", "part", "I", false)
  | 2 => ("MaskedThrows$Body", "strengthBefore", "I", false)
  | 3 => ("MaskedThrows$Body", "at", "I", false)
  | 4 => ("MaskedThrows$Body", "timeout", "I", false)
  | 5 => ("MaskedThrows$Body", "wentIn", "I", false)
  | 6 => ("MaskedThrows$Body", "holds", "Z", false)
  | 7 => ("MaskedThrows$Body", "held", "J", false)
  | _ => ("MaskedThrows$Body", "heldDepth", "I", false)
def fY0 : Nat → FieldType := fun k => match k with
  | 0 => .int
  | 1 => .int
  | 2 => .int
  | 3 => .int
  | 4 => .int
  | 5 => .int
  | 6 => .boolean
  | 7 => .long
  | _ => .int
theorem fN0 : ∀ a, a < 9 → ∀ b, b < 9 → a ≠ b → (fT0 a).2.1 ≠ (fT0 b).2.1 := by decide +kernel
theorem fO0 : ∀ k, k < 9 → parseFieldDescriptor (fT0 k).2.2.1 = some (fY0 k) := by decide +kernel
def fT1 : u_T := fun k => match k with
  | 0 => ("MaskedThrows$Chronicle", "now", "I", false)
  | 1 => ("MaskedThrows$Chronicle", "count", "I", false)
  | 2 => ("MaskedThrows$Chronicle", "kinds", "[I", true)
  | 3 => ("MaskedThrows$Chronicle", "threads", "[I", true)
  | 4 => ("MaskedThrows$Chronicle", "times", "[I", true)
  | _ => ("MaskedThrows$Chronicle", "values", "[J", true)
def fY1 : Nat → FieldType := fun k => match k with
  | 0 => .int
  | 1 => .int
  | 2 => .array .int
  | 3 => .array .int
  | 4 => .array .int
  | _ => .array .long
theorem fN1 : ∀ a, a < 6 → ∀ b, b < 6 → a ≠ b → (fT1 a).2.1 ≠ (fT1 b).2.1 := by decide +kernel
theorem fO1 : ∀ k, k < 6 → parseFieldDescriptor (fT1 k).2.2.1 = some (fY1 k) := by decide +kernel
def fT2 : u_T := fun k => match k with
  | 0 => ("MaskedThrows$Fiber", "number", "I", false)
  | 1 => ("MaskedThrows$Fiber", "row", "LMaskedThrows$Row;", true)
  | 2 => ("MaskedThrows$Fiber", "locals", "[J", true)
  | 3 => ("MaskedThrows$Fiber", "bodies", "[LMaskedThrows$Body;", true)
  | 4 => ("MaskedThrows$Fiber", "chronicle", "LMaskedThrows$Chronicle;", true)
  | 5 => ("MaskedThrows$Fiber", "program", "LMaskedThrows$Program;", false)
  | 6 => ("MaskedThrows$Fiber", "state", "I", false)
  | 7 => ("MaskedThrows$Fiber", "strength", "I", false)
  | 8 => ("MaskedThrows$Fiber", "steps", "I", false)
  | 9 => ("MaskedThrows$Fiber", "depth", "I", false)
  | 10 => ("MaskedThrows$Fiber", "awaited", "I", false)
  | 11 => ("MaskedThrows$Fiber", "diedOf", "J", false)
  | 12 => ("MaskedThrows$Fiber", "sendingTo", "I", false)
  | 13 => ("MaskedThrows$Fiber", "thrown", "J", false)
  | _ => ("MaskedThrows$Fiber", "thrownDepth", "I", false)
def fY2 : Nat → FieldType := fun k => match k with
  | 0 => .int
  | 1 => .object "MaskedThrows$Row"
  | 2 => .array .long
  | 3 => .array (.object "MaskedThrows$Body")
  | 4 => .object "MaskedThrows$Chronicle"
  | 5 => .object "MaskedThrows$Program"
  | 6 => .int
  | 7 => .int
  | 8 => .int
  | 9 => .int
  | 10 => .int
  | 11 => .long
  | 12 => .int
  | 13 => .long
  | _ => .int
theorem fN2 : ∀ a, a < 15 → ∀ b, b < 15 → a ≠ b → (fT2 a).2.1 ≠ (fT2 b).2.1 := by decide +kernel
theorem fO2 : ∀ k, k < 15 → parseFieldDescriptor (fT2 k).2.2.1 = some (fY2 k) := by decide +kernel
def fT3 : u_T := fun k => match k with
  | 0 => ("MaskedThrows$Parser", "tokens", "LMaskedThrows$Tokens;", true)
  | 1 => ("MaskedThrows$Parser", "program", "LMaskedThrows$Program;", false)
  | _ => ("MaskedThrows$Parser", "at", "I", false)
def fY3 : Nat → FieldType := fun k => match k with
  | 0 => .object "MaskedThrows$Tokens"
  | 1 => .object "MaskedThrows$Program"
  | _ => .int
theorem fN3 : ∀ a, a < 3 → ∀ b, b < 3 → a ≠ b → (fT3 a).2.1 ≠ (fT3 b).2.1 := by decide +kernel
theorem fO3 : ∀ k, k < 3 → parseFieldDescriptor (fT3 k).2.2.1 = some (fY3 k) := by decide +kernel
def fT4 : u_T := fun k => match k with
  | 0 => ("MaskedThrows$Program", "statementCount", "I", false)
  | 1 => ("MaskedThrows$Program", "unaryCount", "I", false)
  | 2 => ("MaskedThrows$Program", "deepest", "I", false)
  | 3 => ("MaskedThrows$Program", "codeCount", "I", false)
  | 4 => ("MaskedThrows$Program", "kinds", "[I", true)
  | 5 => ("MaskedThrows$Program", "letters", "[I", true)
  | 6 => ("MaskedThrows$Program", "numbers", "[I", true)
  | 7 => ("MaskedThrows$Program", "expFroms", "[I", true)
  | 8 => ("MaskedThrows$Program", "expTos", "[I", true)
  | 9 => ("MaskedThrows$Program", "nexts", "[I", true)
  | 10 => ("MaskedThrows$Program", "entries", "[I", true)
  | 11 => ("MaskedThrows$Program", "codes", "[I", true)
  | 12 => ("MaskedThrows$Program", "codeNumbers", "[I", true)
  | _ => ("MaskedThrows$Program", "operands", "[J", true)
def fY4 : Nat → FieldType := fun k => match k with
  | 0 => .int
  | 1 => .int
  | 2 => .int
  | 3 => .int
  | 4 => .array .int
  | 5 => .array .int
  | 6 => .array .int
  | 7 => .array .int
  | 8 => .array .int
  | 9 => .array .int
  | 10 => .array .int
  | 11 => .array .int
  | 12 => .array .int
  | _ => .array .long
theorem fN4 : ∀ a, a < 14 → ∀ b, b < 14 → a ≠ b → (fT4 a).2.1 ≠ (fT4 b).2.1 := by decide +kernel
theorem fO4 : ∀ k, k < 14 → parseFieldDescriptor (fT4 k).2.2.1 = some (fY4 k) := by decide +kernel
def fT5 : u_T := fun k => match k with
  | 0 => ("MaskedThrows$Row", "count", "I", false)
  | 1 => ("MaskedThrows$Row", "senders", "[I", true)
  | 2 => ("MaskedThrows$Row", "depths", "[I", true)
  | _ => ("MaskedThrows$Row", "values", "[J", true)
def fY5 : Nat → FieldType := fun k => match k with
  | 0 => .int
  | 1 => .array .int
  | 2 => .array .int
  | _ => .array .long
theorem fN5 : ∀ a, a < 4 → ∀ b, b < 4 → a ≠ b → (fT5 a).2.1 ≠ (fT5 b).2.1 := by decide +kernel
theorem fO5 : ∀ k, k < 4 → parseFieldDescriptor (fT5 k).2.2.1 = some (fY5 k) := by decide +kernel
def fT6 : u_T := fun k => match k with
  | 0 => ("MaskedThrows$Tokens", "kinds", "[I", true)
  | 1 => ("MaskedThrows$Tokens", "values", "[I", true)
  | 2 => ("MaskedThrows$Tokens", "places", "[I", true)
  | _ => ("MaskedThrows$Tokens", "count", "I", false)
def fY6 : Nat → FieldType := fun k => match k with
  | 0 => .array .int
  | 1 => .array .int
  | 2 => .array .int
  | _ => .int
theorem fN6 : ∀ a, a < 4 → ∀ b, b < 4 → a ≠ b → (fT6 a).2.1 ≠ (fT6 b).2.1 := by decide +kernel
theorem fO6 : ∀ k, k < 4 → parseFieldDescriptor (fT6 k).2.2.1 = some (fY6 k) := by decide +kernel
def fT7 : u_T := fun k => match k with
  | 0 => ("MaskedThrows$World", "chronicle", "LMaskedThrows$Chronicle;", true)
  | 1 => ("MaskedThrows$World", "fibers", "[LMaskedThrows$Fiber;", true)
  | 2 => ("MaskedThrows$World", "boxFull", "[Z", true)
  | 3 => ("MaskedThrows$World", "boxNumber", "[J", true)
  | _ => ("MaskedThrows$World", "shadow", "LMaskedThrows$Fiber;", true)
def fY7 : Nat → FieldType := fun k => match k with
  | 0 => .object "MaskedThrows$Chronicle"
  | 1 => .array (.object "MaskedThrows$Fiber")
  | 2 => .array .boolean
  | 3 => .array .long
  | _ => .object "MaskedThrows$Fiber"
theorem fN7 : ∀ a, a < 5 → ∀ b, b < 5 → a ≠ b → (fT7 a).2.1 ≠ (fT7 b).2.1 := by decide +kernel
theorem fO7 : ∀ k, k < 5 → parseFieldDescriptor (fT7 k).2.2.1 = some (fY7 k) := by decide +kernel
def fT8 : u_T := fun k => match k with
  | 0 => ("MaskedThrows", "tape", "[I", true)
  | 1 => ("MaskedThrows", "taped", "I", false)
  | 2 => ("MaskedThrows", "parser", "LMaskedThrows$Parser;", true)
  | 3 => ("MaskedThrows", "programs", "[LMaskedThrows$Program;", true)
  | 4 => ("MaskedThrows", "programCount", "I", false)
  | 5 => ("MaskedThrows", "faultPlace", "I", false)
  | _ => ("MaskedThrows", "world", "LMaskedThrows$World;", true)
def fY8 : Nat → FieldType := fun k => match k with
  | 0 => .array .int
  | 1 => .int
  | 2 => .object "MaskedThrows$Parser"
  | 3 => .array (.object "MaskedThrows$Program")
  | 4 => .int
  | 5 => .int
  | _ => .object "MaskedThrows$World"
theorem fN8 : ∀ a, a < 7 → ∀ b, b < 7 → a ≠ b → (fT8 a).2.1 ≠ (fT8 b).2.1 := by decide +kernel
theorem fO8 : ∀ k, k < 7 → parseFieldDescriptor (fT8 k).2.2.1 = some (fY8 k) := by decide +kernel
def fT9 : u_T := fun k => match k with
  | 0 => ("MaskedThrowsModel", "tape", "[B", true)
  | 1 => ("MaskedThrowsModel", "size", "I", false)
  | 2 => ("MaskedThrowsModel", "at", "I", false)
  | 3 => ("MaskedThrowsModel", "token", "I", false)
  | 4 => ("MaskedThrowsModel", "tokenPlace", "I", false)
  | 5 => ("MaskedThrowsModel", "letter", "I", false)
  | 6 => ("MaskedThrowsModel", "number", "J", false)
  | 7 => ("MaskedThrowsModel", "sign", "I", false)
  | 8 => ("MaskedThrowsModel", "bad", "Z", false)
  | 9 => ("MaskedThrowsModel", "place", "I", false)
  | 10 => ("MaskedThrowsModel", "texts", "I", false)
  | 11 => ("MaskedThrowsModel", "statementCounts", "[I", true)
  | 12 => ("MaskedThrowsModel", "unaryCounts", "[I", true)
  | 13 => ("MaskedThrowsModel", "depths", "[I", true)
  | 14 => ("MaskedThrowsModel", "firstStatements", "[I", true)
  | 15 => ("MaskedThrowsModel", "actCounts", "[I", true)
  | 16 => ("MaskedThrowsModel", "kinds", "[I", true)
  | 17 => ("MaskedThrowsModel", "nexts", "[I", true)
  | 18 => ("MaskedThrowsModel", "exps", "[I", true)
  | 19 => ("MaskedThrowsModel", "bodies", "[I", true)
  | 20 => ("MaskedThrowsModel", "hasBodies", "[Z", true)
  | 21 => ("MaskedThrowsModel", "letters", "[I", true)
  | 22 => ("MaskedThrowsModel", "boxesOf", "[I", true)
  | 23 => ("MaskedThrowsModel", "numbersOf", "[I", true)
  | 24 => ("MaskedThrowsModel", "acts", "[I", true)
  | 25 => ("MaskedThrowsModel", "actLetters", "[I", true)
  | 26 => ("MaskedThrowsModel", "actNumbers", "[J", true)
  | 27 => ("MaskedThrowsModel", "reading", "I", false)
  | 28 => ("MaskedThrowsModel", "pile", "[I", true)
  | 29 => ("MaskedThrowsModel", "piled", "I", false)
  | 30 => ("MaskedThrowsModel", "opens", "I", false)
  | 31 => ("MaskedThrowsModel", "compared", "[Z", true)
  | 32 => ("MaskedThrowsModel", "level", "I", false)
  | 33 => ("MaskedThrowsModel", "openOwners", "[I", true)
  | 34 => ("MaskedThrowsModel", "openWhiches", "[I", true)
  | 35 => ("MaskedThrowsModel", "openLasts", "[I", true)
  | 36 => ("MaskedThrowsModel", "within", "I", false)
  | 37 => ("MaskedThrowsModel", "clock", "I", false)
  | 38 => ("MaskedThrowsModel", "isFull", "[Z", true)
  | 39 => ("MaskedThrowsModel", "boxes", "[J", true)
  | 40 => ("MaskedThrowsModel", "states", "[I", true)
  | 41 => ("MaskedThrowsModel", "positions", "[I", true)
  | 42 => ("MaskedThrowsModel", "strengths", "[I", true)
  | 43 => ("MaskedThrowsModel", "steps", "[I", true)
  | 44 => ("MaskedThrowsModel", "diedOf", "[J", true)
  | 45 => ("MaskedThrowsModel", "locals", "[J", true)
  | 46 => ("MaskedThrowsModel", "levelCounts", "[I", true)
  | 47 => ("MaskedThrowsModel", "levelOf", "[I", true)
  | 48 => ("MaskedThrowsModel", "levelWhich", "[I", true)
  | 49 => ("MaskedThrowsModel", "levelBefore", "[I", true)
  | 50 => ("MaskedThrowsModel", "levelDue", "[J", true)
  | 51 => ("MaskedThrowsModel", "levelCame", "[Z", true)
  | 52 => ("MaskedThrowsModel", "levelOn", "[I", true)
  | 53 => ("MaskedThrowsModel", "levelValue", "[J", true)
  | 54 => ("MaskedThrowsModel", "levelOrigin", "[I", true)
  | 55 => ("MaskedThrowsModel", "rowCounts", "[I", true)
  | 56 => ("MaskedThrowsModel", "rowWho", "[I", true)
  | 57 => ("MaskedThrowsModel", "rowValues", "[J", true)
  | 58 => ("MaskedThrowsModel", "rowLevels", "[I", true)
  | 59 => ("MaskedThrowsModel", "rowSerials", "[I", true)
  | 60 => ("MaskedThrowsModel", "serials", "I", false)
  | 61 => ("MaskedThrowsModel", "sending", "[I", true)
  | 62 => ("MaskedThrowsModel", "sendingTo", "[I", true)
  | 63 => ("MaskedThrowsModel", "notes", "I", false)
  | 64 => ("MaskedThrowsModel", "noteKinds", "[I", true)
  | 65 => ("MaskedThrowsModel", "noteThreads", "[I", true)
  | 66 => ("MaskedThrowsModel", "noteClocks", "[I", true)
  | 67 => ("MaskedThrowsModel", "noteValues", "[J", true)
  | _ => ("MaskedThrowsModel", "stack", "[J", true)
def fY9 : Nat → FieldType := fun k => match k with
  | 0 => .array .byte
  | 1 => .int
  | 2 => .int
  | 3 => .int
  | 4 => .int
  | 5 => .int
  | 6 => .long
  | 7 => .int
  | 8 => .boolean
  | 9 => .int
  | 10 => .int
  | 11 => .array .int
  | 12 => .array .int
  | 13 => .array .int
  | 14 => .array .int
  | 15 => .array .int
  | 16 => .array .int
  | 17 => .array .int
  | 18 => .array .int
  | 19 => .array .int
  | 20 => .array .boolean
  | 21 => .array .int
  | 22 => .array .int
  | 23 => .array .int
  | 24 => .array .int
  | 25 => .array .int
  | 26 => .array .long
  | 27 => .int
  | 28 => .array .int
  | 29 => .int
  | 30 => .int
  | 31 => .array .boolean
  | 32 => .int
  | 33 => .array .int
  | 34 => .array .int
  | 35 => .array .int
  | 36 => .int
  | 37 => .int
  | 38 => .array .boolean
  | 39 => .array .long
  | 40 => .array .int
  | 41 => .array .int
  | 42 => .array .int
  | 43 => .array .int
  | 44 => .array .long
  | 45 => .array .long
  | 46 => .array .int
  | 47 => .array .int
  | 48 => .array .int
  | 49 => .array .int
  | 50 => .array .long
  | 51 => .array .boolean
  | 52 => .array .int
  | 53 => .array .long
  | 54 => .array .int
  | 55 => .array .int
  | 56 => .array .int
  | 57 => .array .long
  | 58 => .array .int
  | 59 => .array .int
  | 60 => .int
  | 61 => .array .int
  | 62 => .array .int
  | 63 => .int
  | 64 => .array .int
  | 65 => .array .int
  | 66 => .array .int
  | 67 => .array .long
  | _ => .array .long
theorem fN9 : ∀ a, a < 69 → ∀ b, b < 69 → a ≠ b → (fT9 a).2.1 ≠ (fT9 b).2.1 := by decide +kernel
theorem fO9 : ∀ k, k < 69 → parseFieldDescriptor (fT9 k).2.2.1 = some (fY9 k) := by decide +kernel
def clS (c : Nat) : String := match c with
  | 0 => "MaskedThrows$Body"
  | 1 => "MaskedThrows$Chronicle"
  | 2 => "MaskedThrows$Fiber"
  | 3 => "MaskedThrows$Parser"
  | 4 => "MaskedThrows$Program"
  | 5 => "MaskedThrows$Row"
  | 6 => "MaskedThrows$Tokens"
  | 7 => "MaskedThrows$World"
  | 8 => "MaskedThrows"
  | _ => "MaskedThrowsModel"
def clT (c : Nat) : u_T := match c with
  | 0 => fT0
  | 1 => fT1
  | 2 => fT2
  | 3 => fT3
  | 4 => fT4
  | 5 => fT5
  | 6 => fT6
  | 7 => fT7
  | 8 => fT8
  | _ => fT9
def clY (c : Nat) : Nat → FieldType := match c with
  | 0 => fY0
  | 1 => fY1
  | 2 => fY2
  | 3 => fY3
  | 4 => fY4
  | 5 => fY5
  | 6 => fY6
  | 7 => fY7
  | 8 => fY8
  | _ => fY9
def clN (c : Nat) : Nat := match c with
  | 0 => 9
  | 1 => 6
  | 2 => 15
  | 3 => 3
  | 4 => 14
  | 5 => 4
  | 6 => 4
  | 7 => 5
  | 8 => 7
  | _ => 69
abbrev classes : List vw_C := [("MaskedThrows$Body", fT0, 9), ("MaskedThrows$Chronicle", fT1, 6), ("MaskedThrows$Fiber", fT2, 15), ("MaskedThrows$Parser", fT3, 3), ("MaskedThrows$Program", fT4, 14), ("MaskedThrows$Row", fT5, 4), ("MaskedThrows$Tokens", fT6, 4), ("MaskedThrows$World", fT7, 5), ("MaskedThrows", fT8, 7), ("MaskedThrowsModel", fT9, 69)]
theorem fW0 : ∀ w ∈ u_ws "MaskedThrows$Body" fT0 9, w ∈ gw := by
  have h : u_ws "MaskedThrows$Body" fT0 9 = [237, 239, 241, 243, 245, 247, 249, 251, 253].filterMap (fun i => tables_1[i]?) := by decide +kernel
  have g : (u_ws "MaskedThrows$Body" fT0 9).all goodWord = true := by decide +kernel
  intro w hw
  have hg := List.all_eq_true.mp g w hw
  rw [h] at hw
  obtain ⟨i, -, hi⟩ := List.mem_filterMap.mp hw
  exact gw_t hi hg
theorem fW1 : ∀ w ∈ u_ws "MaskedThrows$Chronicle" fT1 6, w ∈ gw := by
  have h : u_ws "MaskedThrows$Chronicle" fT1 6 = [162, 164, 166, 168, 170, 172].filterMap (fun i => tables_1[i]?) := by decide +kernel
  have g : (u_ws "MaskedThrows$Chronicle" fT1 6).all goodWord = true := by decide +kernel
  intro w hw
  have hg := List.all_eq_true.mp g w hw
  rw [h] at hw
  obtain ⟨i, -, hi⟩ := List.mem_filterMap.mp hw
  exact gw_t hi hg
theorem fW2 : ∀ w ∈ u_ws "MaskedThrows$Fiber" fT2 15, w ∈ gw := by
  have h : u_ws "MaskedThrows$Fiber" fT2 15 = [289, 291, 293, 295, 297, 299, 301, 303, 305, 307, 309, 311, 313, 315, 317].filterMap (fun i => tables_1[i]?) := by decide +kernel
  have g : (u_ws "MaskedThrows$Fiber" fT2 15).all goodWord = true := by decide +kernel
  intro w hw
  have hg := List.all_eq_true.mp g w hw
  rw [h] at hw
  obtain ⟨i, -, hi⟩ := List.mem_filterMap.mp hw
  exact gw_t hi hg
theorem fW3 : ∀ w ∈ u_ws "MaskedThrows$Parser" fT3 3, w ∈ gw := by
  have h : u_ws "MaskedThrows$Parser" fT3 3 = [56, 58, 60].filterMap (fun i => tables_1[i]?) := by decide +kernel
  have g : (u_ws "MaskedThrows$Parser" fT3 3).all goodWord = true := by decide +kernel
  intro w hw
  have hg := List.all_eq_true.mp g w hw
  rw [h] at hw
  obtain ⟨i, -, hi⟩ := List.mem_filterMap.mp hw
  exact gw_t hi hg
theorem fW4 : ∀ w ∈ u_ws "MaskedThrows$Program" fT4 14, w ∈ gw := by
  have h : u_ws "MaskedThrows$Program" fT4 14 = [105, 107, 109, 111, 113, 115, 117, 119, 121, 123, 125, 127, 129, 131].filterMap (fun i => tables_1[i]?) := by decide +kernel
  have g : (u_ws "MaskedThrows$Program" fT4 14).all goodWord = true := by decide +kernel
  intro w hw
  have hg := List.all_eq_true.mp g w hw
  rw [h] at hw
  obtain ⟨i, -, hi⟩ := List.mem_filterMap.mp hw
  exact gw_t hi hg
theorem fW5 : ∀ w ∈ u_ws "MaskedThrows$Row" fT5 4, w ∈ gw := by
  have h : u_ws "MaskedThrows$Row" fT5 4 = [203, 205, 207, 209].filterMap (fun i => tables_1[i]?) := by decide +kernel
  have g : (u_ws "MaskedThrows$Row" fT5 4).all goodWord = true := by decide +kernel
  intro w hw
  have hg := List.all_eq_true.mp g w hw
  rw [h] at hw
  obtain ⟨i, -, hi⟩ := List.mem_filterMap.mp hw
  exact gw_t hi hg
theorem fW6 : ∀ w ∈ u_ws "MaskedThrows$Tokens" fT6 4, w ∈ gw := by
  have h : u_ws "MaskedThrows$Tokens" fT6 4 = [43, 45, 47, 49].filterMap (fun i => tables_1[i]?) := by decide +kernel
  have g : (u_ws "MaskedThrows$Tokens" fT6 4).all goodWord = true := by decide +kernel
  intro w hw
  have hg := List.all_eq_true.mp g w hw
  rw [h] at hw
  obtain ⟨i, -, hi⟩ := List.mem_filterMap.mp hw
  exact gw_t hi hg
theorem fW7 : ∀ w ∈ u_ws "MaskedThrows$World" fT7 5, w ∈ gw := by
  have h : u_ws "MaskedThrows$World" fT7 5 = [329, 331, 333, 335, 337].filterMap (fun i => tables_1[i]?) := by decide +kernel
  have g : (u_ws "MaskedThrows$World" fT7 5).all goodWord = true := by decide +kernel
  intro w hw
  have hg := List.all_eq_true.mp g w hw
  rw [h] at hw
  obtain ⟨i, -, hi⟩ := List.mem_filterMap.mp hw
  exact gw_t hi hg
theorem fW8 : ∀ w ∈ u_ws "MaskedThrows" fT8 7, w ∈ gw := by
  have h : u_ws "MaskedThrows" fT8 7 = [347, 349, 351, 353, 355, 357, 359].filterMap (fun i => tables_1[i]?) := by decide +kernel
  have g : (u_ws "MaskedThrows" fT8 7).all goodWord = true := by decide +kernel
  intro w hw
  have hg := List.all_eq_true.mp g w hw
  rw [h] at hw
  obtain ⟨i, -, hi⟩ := List.mem_filterMap.mp hw
  exact gw_t hi hg
theorem fW9 : ∀ w ∈ u_ws "MaskedThrowsModel" fT9 69, w ∈ gw := by
  have h : u_ws "MaskedThrowsModel" fT9 69 = [899, 901, 903, 905, 907, 909, 911, 913, 915, 917, 919, 921, 923, 925, 927, 929, 931, 933, 935, 937, 939, 941, 943, 945, 947, 949, 951, 953, 955, 957, 959, 961, 963, 965, 967, 969, 971, 973, 975, 977, 979, 981, 983, 985, 987, 989, 991, 993, 995, 997, 999, 1001, 1003, 1005, 1007, 1009, 1011, 1013, 1015, 1017, 1019, 1021, 1023, 1025, 1027, 1029, 1031, 1033, 1035].filterMap (fun i => tables_1[i]?) := by decide +kernel
  have g : (u_ws "MaskedThrowsModel" fT9 69).all goodWord = true := by decide +kernel
  intro w hw
  have hg := List.all_eq_true.mp g w hw
  rw [h] at hw
  obtain ⟨i, -, hi⟩ := List.mem_filterMap.mp hw
  exact gw_t hi hg
def mtl : List (MethodName × ByteArray × Nat × Option FieldType) := [
  (⟨"MaskedThrows", "<init>", "()V"⟩, prog_1_method_1_code, 2, none),
  (⟨"java/lang/Object", "<init>", "()V"⟩, object_method_1_code, 1, none),
  (⟨"MaskedThrows$Parser", "<init>", "()V"⟩, prog_5_method_1_code, 1, none),
  (⟨"MaskedThrows$Tokens", "<init>", "()V"⟩, prog_8_method_1_code, 1, none),
  (⟨"MaskedThrows$Program", "<init>", "()V"⟩, prog_6_method_1_code, 1, none),
  (⟨"MaskedThrows$World", "<init>", "()V"⟩, prog_9_method_1_code, 5, none),
  (⟨"MaskedThrows$Chronicle", "<init>", "(I)V"⟩, prog_3_method_1_code, 2, none),
  (⟨"MaskedThrows$Fiber", "<init>", "(ILMaskedThrows$Chronicle;LMaskedThrows$Program;)V"⟩, prog_4_method_1_code, 5, none),
  (⟨"MaskedThrows$Row", "<init>", "()V"⟩, prog_7_method_1_code, 1, none),
  (⟨"MaskedThrows$Body", "<init>", "()V"⟩, prog_2_method_1_code, 1, none),
  (⟨"MaskedThrows", "feed", "(IIIII)I"⟩, prog_1_method_2_code, 6, some .int),
  (⟨"MaskedThrows", "putOnTape", "(I)V"⟩, prog_1_method_3_code, 3, none),
  (⟨"MaskedThrows", "end", "(I)I"⟩, prog_1_method_4_code, 2, some .int),
  (⟨"MaskedThrows", "text", "()I"⟩, prog_1_method_5_code, 1, some .int),
  (⟨"MaskedThrows$Parser", "parse", "([IILMaskedThrows$Program;)I"⟩, prog_5_method_2_code, 5, some .int),
  (⟨"MaskedThrows$Tokens", "scan", "([II)V"⟩, prog_8_method_2_code, 6, none),
  (⟨"MaskedThrows$Tokens", "isLetter", "(I)Z"⟩, prog_8_method_8_code, 1, some .boolean),
  (⟨"MaskedThrows$Tokens", "addLetters", "([III)V"⟩, prog_8_method_4_code, 5, none),
  (⟨"MaskedThrows$Tokens", "wordKind", "([III)I"⟩, prog_8_method_6_code, 4, some .int),
  (⟨"MaskedThrows$Tokens", "isSpelled", "(I[III)Z"⟩, prog_8_method_7_code, 6, some .boolean),
  (⟨"java/lang/String", "charAt", "(I)C"⟩, prog_13_method_56_code, 2, some .char),
  (⟨"java/lang/String", "isLatin1", "()Z"⟩, prog_13_method_154_code, 1, some .boolean),
  (⟨"java/lang/StringLatin1", "charAt", "([BI)C"⟩, prog_14_method_2_code, 2, some .char),
  (⟨"java/lang/String", "checkIndex", "(II)V"⟩, prog_13_method_155_code, 2, none),
  (⟨"jdk/internal/util/Preconditions", "checkIndex", "(IILjava/util/function/BiFunction;)I"⟩, prog_16_method_11_code, 3, some .int),
  (⟨"java/lang/StringUTF16", "charAt", "([BI)C"⟩, prog_15_method_83_code, 2, some .char),
  (⟨"java/lang/StringUTF16", "checkIndex", "(I[B)V"⟩, prog_15_method_91_code, 2, none),
  (⟨"java/lang/StringUTF16", "length", "([B)I"⟩, prog_15_method_6_code, 1, some .int),
  (⟨"java/lang/StringUTF16", "getChar", "([BI)C"⟩, prog_15_method_5_code, 2, some .char),
  (⟨"MaskedThrows$Tokens", "addToken", "(III)V"⟩, prog_8_method_3_code, 4, none),
  (⟨"MaskedThrows$Tokens", "isDigit", "(I)Z"⟩, prog_8_method_9_code, 1, some .boolean),
  (⟨"MaskedThrows$Tokens", "addDigits", "([III)V"⟩, prog_8_method_5_code, 6, none),
  (⟨"MaskedThrows$Tokens", "isSign", "(I)Z"⟩, prog_8_method_10_code, 2, some .boolean),
  (⟨"java/lang/String", "length", "()I"⟩, prog_13_method_54_code, 1, some .int),
  (⟨"java/lang/String", "coder", "()B"⟩, prog_13_method_152_code, 1, some .byte),
  (⟨"MaskedThrows$Program", "reset", "()V"⟩, prog_6_method_2_code, 1, none),
  (⟨"MaskedThrows$Parser", "statements", "(III)Z"⟩, prog_5_method_3_code, 7, some .boolean),
  (⟨"MaskedThrows$Parser", "statement", "(I)Z"⟩, prog_5_method_4_code, 4, some .boolean),
  (⟨"MaskedThrows$Parser", "beginsStatement", "(I)Z"⟩, prog_5_method_5_code, 1, some .boolean),
  (⟨"MaskedThrows$Program", "addStatement", "(I)I"⟩, prog_6_method_3_code, 4, some .int),
  (⟨"MaskedThrows$Parser", "isLocal", "(I)Z"⟩, prog_5_method_7_code, 2, some .boolean),
  (⟨"MaskedThrows$Parser", "is", "(I)Z"⟩, prog_5_method_6_code, 2, some .boolean),
  (⟨"MaskedThrows$Parser", "isExpOf", "(I)Z"⟩, prog_5_method_12_code, 3, some .boolean),
  (⟨"MaskedThrows$Parser", "isExp", "(I)Z"⟩, prog_5_method_13_code, 3, some .boolean),
  (⟨"MaskedThrows$Parser", "isSum", "(I)Z"⟩, prog_5_method_14_code, 5, some .boolean),
  (⟨"MaskedThrows$Parser", "isProduct", "(I)Z"⟩, prog_5_method_15_code, 4, some .boolean),
  (⟨"MaskedThrows$Parser", "isUnary", "(I)Z"⟩, prog_5_method_16_code, 3, some .boolean),
  (⟨"MaskedThrows$Program", "addCode", "(II)Z"⟩, prog_6_method_4_code, 3, some .boolean),
  (⟨"MaskedThrows$Parser", "isCondition", "(I)Z"⟩, prog_5_method_11_code, 2, some .boolean),
  (⟨"MaskedThrows$Parser", "isBody", "(III)Z"⟩, prog_5_method_9_code, 4, some .boolean),
  (⟨"java/lang/Math", "max", "(II)I"⟩, prog_12_method_65_code, 2, some .int),
  (⟨"MaskedThrows$Parser", "mayHaveElse", "(II)Z"⟩, prog_5_method_10_code, 3, some .boolean),
  (⟨"MaskedThrows$Parser", "isNumberOf", "(III)Z"⟩, prog_5_method_8_code, 4, some .boolean),
  (⟨"MaskedThrows", "place", "()I"⟩, prog_1_method_6_code, 1, some .int),
  (⟨"MaskedThrows", "told", "(II)I"⟩, prog_1_method_7_code, 3, some .int),
  (⟨"MaskedThrows", "isProgram", "(I)Z"⟩, prog_1_method_26_code, 2, some .boolean),
  (⟨"MaskedThrows", "start", "(II)I"⟩, prog_1_method_8_code, 3, some .int),
  (⟨"MaskedThrows", "isThread", "(I)Z"⟩, prog_1_method_27_code, 1, some .boolean),
  (⟨"MaskedThrows", "runs", "(I)Z"⟩, prog_1_method_28_code, 2, some .boolean),
  (⟨"MaskedThrows$Fiber", "begin", "(LMaskedThrows$Program;)V"⟩, prog_4_method_4_code, 2, none),
  (⟨"MaskedThrows$Fiber", "reset", "()V"⟩, prog_4_method_2_code, 2, none),
  (⟨"MaskedThrows$Fiber", "leaveAll", "()V"⟩, prog_4_method_3_code, 1, none),
  (⟨"MaskedThrows$Body", "enter", "(IIII)V"⟩, prog_2_method_2_code, 5, none),
  (⟨"MaskedThrows$Body", "enterPart", "(II)V"⟩, prog_2_method_3_code, 3, none),
  (⟨"MaskedThrows", "turn", "(I)I"⟩, prog_1_method_9_code, 2, some .int),
  (⟨"MaskedThrows$World", "takeTurn", "(LMaskedThrows$Fiber;)I"⟩, prog_9_method_3_code, 3, some .int),
  (⟨"MaskedThrows$Fiber", "bringTimeouts", "()V"⟩, prog_4_method_14_code, 3, none),
  (⟨"MaskedThrows$Row", "append", "(IIJ)V"⟩, prog_7_method_2_code, 5, none),
  (⟨"MaskedThrows$World", "step", "(LMaskedThrows$Fiber;)I"⟩, prog_9_method_4_code, 3, some .int),
  (⟨"MaskedThrows$Fiber", "settle", "()Z"⟩, prog_4_method_15_code, 4, some .boolean),
  (⟨"MaskedThrows$Fiber", "nextStatement", "()I"⟩, prog_4_method_7_code, 1, some .int),
  (⟨"MaskedThrows$Fiber", "goOver", "(LMaskedThrows$Body;II)V"⟩, prog_4_method_11_code, 4, none),
  (⟨"MaskedThrows$Program", "entryOf", "(II)I"⟩, prog_6_method_5_code, 3, some .int),
  (⟨"MaskedThrows$Chronicle", "tell", "(IIJ)V"⟩, prog_3_method_2_code, 5, none),
  (⟨"MaskedThrows$Fiber", "goToLast", "(LMaskedThrows$Body;)V"⟩, prog_4_method_16_code, 2, none),
  (⟨"MaskedThrows$Fiber", "leave", "()V"⟩, prog_4_method_12_code, 2, none),
  (⟨"MaskedThrows$Fiber", "forgetTimeout", "(LMaskedThrows$Body;)V"⟩, prog_4_method_13_code, 2, none),
  (⟨"MaskedThrows$Row", "placeOfTimeout", "(I)I"⟩, prog_7_method_6_code, 3, some .int),
  (⟨"MaskedThrows$Row", "removeAt", "(I)V"⟩, prog_7_method_3_code, 3, none),
  (⟨"MaskedThrows$Fiber", "goBehind", "()I"⟩, prog_4_method_9_code, 2, some .int),
  (⟨"MaskedThrows$World", "takeFromRow", "(LMaskedThrows$Fiber;)I"⟩, prog_9_method_5_code, 3, some .int),
  (⟨"MaskedThrows$World", "breakSend", "(LMaskedThrows$Fiber;)V"⟩, prog_9_method_6_code, 3, none),
  (⟨"MaskedThrows$Row", "placeFrom", "(I)I"⟩, prog_7_method_5_code, 3, some .int),
  (⟨"MaskedThrows$Fiber", "finish", "()I"⟩, prog_4_method_5_code, 1, some .int),
  (⟨"MaskedThrows$World", "perform", "(LMaskedThrows$Fiber;I)I"⟩, prog_9_method_7_code, 4, some .int),
  (⟨"MaskedThrows$Program", "work", "(I[J)J"⟩, prog_6_method_6_code, 6, some .long),
  (⟨"MaskedThrows$Program", "joined", "(IJJ)J"⟩, prog_6_method_7_code, 5, some .long),
  (⟨"MaskedThrows$Fiber", "goIn", "(II)I"⟩, prog_4_method_10_code, 5, some .int),
  (⟨"MaskedThrows$World", "takeFromBox", "(LMaskedThrows$Fiber;I)I"⟩, prog_9_method_8_code, 4, some .int),
  (⟨"MaskedThrows$World", "waits", "(LMaskedThrows$Fiber;I)Z"⟩, prog_9_method_12_code, 4, some .boolean),
  (⟨"MaskedThrows$World", "putInBox", "(LMaskedThrows$Fiber;I)I"⟩, prog_9_method_9_code, 4, some .int),
  (⟨"MaskedThrows$World", "throwValue", "(LMaskedThrows$Fiber;I)I"⟩, prog_9_method_10_code, 2, some .int),
  (⟨"MaskedThrows$World", "sendValue", "(LMaskedThrows$Fiber;I)I"⟩, prog_9_method_11_code, 4, some .int),
  (⟨"MaskedThrows$Fiber", "unwind", "()I"⟩, prog_4_method_17_code, 2, some .int),
  (⟨"MaskedThrows$Fiber", "stops", "(LMaskedThrows$Body;)Z"⟩, prog_4_method_18_code, 3, some .boolean),
  (⟨"MaskedThrows$Fiber", "perish", "()I"⟩, prog_4_method_6_code, 1, some .int),
  (⟨"MaskedThrows", "play", "(JI)I"⟩, prog_1_method_10_code, 9, some .int),
  (⟨"MaskedThrows", "hurl", "(IJ)I"⟩, prog_1_method_11_code, 5, some .int),
  (⟨"MaskedThrows$Row", "countFrom", "(I)I"⟩, prog_7_method_4_code, 4, some .int),
  (⟨"MaskedThrows", "fill", "(IJ)I"⟩, prog_1_method_12_code, 4, some .int),
  (⟨"MaskedThrows", "isBox", "(I)Z"⟩, prog_1_method_29_code, 1, some .boolean),
  (⟨"MaskedThrows", "full", "(I)I"⟩, prog_1_method_13_code, 2, some .int),
  (⟨"MaskedThrows", "box", "(I)J"⟩, prog_1_method_14_code, 2, some .long),
  (⟨"MaskedThrows", "thread", "(II)I"⟩, prog_1_method_15_code, 4, some .int),
  (⟨"MaskedThrows$Fiber", "holdsValue", "()Z"⟩, prog_4_method_8_code, 2, some .boolean),
  (⟨"MaskedThrows", "died", "(I)J"⟩, prog_1_method_16_code, 2, some .long),
  (⟨"MaskedThrows", "local", "(II)J"⟩, prog_1_method_17_code, 3, some .long),
  (⟨"MaskedThrows", "row", "(III)I"⟩, prog_1_method_18_code, 5, some .int),
  (⟨"MaskedThrows", "isInRow", "(II)Z"⟩, prog_1_method_30_code, 3, some .boolean),
  (⟨"MaskedThrows", "value", "(II)J"⟩, prog_1_method_19_code, 3, some .long),
  (⟨"MaskedThrows", "stuck", "()I"⟩, prog_1_method_20_code, 1, some .int),
  (⟨"MaskedThrows$World", "anyWouldStep", "()Z"⟩, prog_9_method_13_code, 2, some .boolean),
  (⟨"MaskedThrows$World", "wouldStep", "(LMaskedThrows$Fiber;)Z"⟩, prog_9_method_14_code, 4, some .boolean),
  (⟨"MaskedThrows$Fiber", "mirror", "(LMaskedThrows$Fiber;)V"⟩, prog_4_method_19_code, 3, none),
  (⟨"MaskedThrows$Row", "mirror", "(LMaskedThrows$Row;)V"⟩, prog_7_method_7_code, 3, none),
  (⟨"MaskedThrows$Body", "mirror", "(LMaskedThrows$Body;)V"⟩, prog_2_method_4_code, 2, none),
  (⟨"MaskedThrows", "clock", "()I"⟩, prog_1_method_21_code, 1, some .int),
  (⟨"MaskedThrows", "notes", "()I"⟩, prog_1_method_22_code, 1, some .int),
  (⟨"MaskedThrows", "note", "(II)I"⟩, prog_1_method_23_code, 3, some .int),
  (⟨"MaskedThrows", "isNote", "(I)Z"⟩, prog_1_method_31_code, 2, some .boolean),
  (⟨"MaskedThrows", "noted", "(I)J"⟩, prog_1_method_24_code, 2, some .long),
  (⟨"MaskedThrows", "clear", "()I"⟩, prog_1_method_25_code, 2, some .int),
  (⟨"MaskedThrows$World", "reset", "()V"⟩, prog_9_method_2_code, 2, none),
  (⟨"MaskedThrowsModel", "<init>", "()V"⟩, prog_11_method_1_code, 1, none),
  (⟨"MaskedThrowsModel", "feed", "(IIIII)I"⟩, prog_11_method_29_code, 9, some .int),
  (⟨"MaskedThrowsModel", "end", "(I)I"⟩, prog_11_method_30_code, 2, some .int),
  (⟨"MaskedThrowsModel", "text", "()I"⟩, prog_11_method_31_code, 1, some .int),
  (⟨"MaskedThrowsModel", "readText", "()V"⟩, prog_11_method_20_code, 1, none),
  (⟨"MaskedThrowsModel", "next", "()V"⟩, prog_11_method_7_code, 6, none),
  (⟨"MaskedThrowsModel", "byteAt", "(I)I"⟩, prog_11_method_2_code, 2, some .int),
  (⟨"MaskedThrowsModel", "isSmall", "(I)Z"⟩, prog_11_method_3_code, 1, some .boolean),
  (⟨"MaskedThrowsModel", "wordOf", "(J)I"⟩, prog_11_method_6_code, 2, some .int),
  (⟨"MaskedThrowsModel", "isFigure", "(I)Z"⟩, prog_11_method_4_code, 1, some .boolean),
  (⟨"MaskedThrowsModel", "isSignByte", "(I)Z"⟩, prog_11_method_5_code, 1, some .boolean),
  (⟨"MaskedThrowsModel", "isSign", "(I)Z"⟩, prog_11_method_9_code, 2, some .boolean),
  (⟨"MaskedThrowsModel", "misplaced", "()V"⟩, prog_11_method_8_code, 1, none),
  (⟨"MaskedThrowsModel", "closeBody", "()V"⟩, prog_11_method_21_code, 4, none),
  (⟨"MaskedThrowsModel", "takeWord", "(I)V"⟩, prog_11_method_11_code, 2, none),
  (⟨"MaskedThrowsModel", "openBody", "(II)V"⟩, prog_11_method_19_code, 3, none),
  (⟨"MaskedThrowsModel", "takeLocal", "()V"⟩, prog_11_method_22_code, 1, none),
  (⟨"MaskedThrowsModel", "isLocal", "()Z"⟩, prog_11_method_12_code, 1, some .boolean),
  (⟨"MaskedThrowsModel", "readStatement", "()V"⟩, prog_11_method_27_code, 4, none),
  (⟨"MaskedThrowsModel", "begins", "(I)Z"⟩, prog_11_method_26_code, 1, some .boolean),
  (⟨"MaskedThrowsModel", "newStatement", "()I"⟩, prog_11_method_25_code, 4, some .int),
  (⟨"MaskedThrowsModel", "take", "(I)V"⟩, prog_11_method_10_code, 2, none),
  (⟨"MaskedThrowsModel", "readEnd", "(I)V"⟩, prog_11_method_28_code, 2, none),
  (⟨"MaskedThrowsModel", "exp", "()I"⟩, prog_11_method_17_code, 5, some .int),
  (⟨"MaskedThrowsModel", "readUnary", "()Z"⟩, prog_11_method_18_code, 3, some .boolean),
  (⟨"MaskedThrowsModel", "act", "(IIJ)V"⟩, prog_11_method_13_code, 6, none),
  (⟨"MaskedThrowsModel", "operandIsThere", "()V"⟩, prog_11_method_16_code, 1, none),
  (⟨"MaskedThrowsModel", "reduce", "(I)V"⟩, prog_11_method_15_code, 2, none),
  (⟨"MaskedThrowsModel", "strengthOf", "(I)I"⟩, prog_11_method_14_code, 1, some .int),
  (⟨"MaskedThrowsModel", "takeBox", "(I)V"⟩, prog_11_method_23_code, 2, none),
  (⟨"MaskedThrowsModel", "takeNumber", "(IJ)V"⟩, prog_11_method_24_code, 4, none),
  (⟨"MaskedThrowsModel", "place", "()I"⟩, prog_11_method_32_code, 1, some .int),
  (⟨"MaskedThrowsModel", "told", "(II)I"⟩, prog_11_method_33_code, 3, some .int),
  (⟨"MaskedThrowsModel", "start", "(II)I"⟩, prog_11_method_53_code, 4, some .int),
  (⟨"MaskedThrowsModel", "isThread", "(I)Z"⟩, prog_11_method_52_code, 1, some .boolean),
  (⟨"MaskedThrowsModel", "turn", "(I)I"⟩, prog_11_method_54_code, 2, some .int),
  (⟨"MaskedThrowsModel", "turnOnce", "(I)I"⟩, prog_11_method_51_code, 3, some .int),
  (⟨"MaskedThrowsModel", "timeouts", "()V"⟩, prog_11_method_47_code, 4, none),
  (⟨"MaskedThrowsModel", "toRow", "(IIJII)V"⟩, prog_11_method_36_code, 8, none),
  (⟨"MaskedThrowsModel", "turnOf", "(I)I"⟩, prog_11_method_49_code, 5, some .int),
  (⟨"MaskedThrowsModel", "settle", "(I)Z"⟩, prog_11_method_43_code, 5, some .boolean),
  (⟨"MaskedThrowsModel", "leave", "(I)V"⟩, prog_11_method_41_code, 4, none),
  (⟨"MaskedThrowsModel", "fromRow", "(II)V"⟩, prog_11_method_37_code, 5, none),
  (⟨"MaskedThrowsModel", "note0", "(IIJ)V"⟩, prog_11_method_34_code, 5, none),
  (⟨"MaskedThrowsModel", "goIn", "(IIII)V"⟩, prog_11_method_40_code, 6, none),
  (⟨"MaskedThrowsModel", "atLeast", "(II)I"⟩, prog_11_method_42_code, 2, some .int),
  (⟨"MaskedThrowsModel", "throwOut", "(IZJI)Z"⟩, prog_11_method_44_code, 10, some .boolean),
  (⟨"MaskedThrowsModel", "dropSerial", "(II)V"⟩, prog_11_method_39_code, 4, none),
  (⟨"MaskedThrowsModel", "thrown", "(Z)I"⟩, prog_11_method_45_code, 2, some .int),
  (⟨"MaskedThrowsModel", "throwFirst", "(I)I"⟩, prog_11_method_46_code, 7, some .int),
  (⟨"MaskedThrowsModel", "work", "(II)J"⟩, prog_11_method_35_code, 10, some .long),
  (⟨"MaskedThrowsModel", "waits", "(I)I"⟩, prog_11_method_48_code, 2, some .int),
  (⟨"MaskedThrowsModel", "waitsToSend", "(II)Z"⟩, prog_11_method_50_code, 4, some .boolean),
  (⟨"MaskedThrowsModel", "stands", "(II)Z"⟩, prog_11_method_38_code, 5, some .boolean),
  (⟨"MaskedThrowsModel", "play", "(JI)I"⟩, prog_11_method_55_code, 9, some .int),
  (⟨"MaskedThrowsModel", "hurl", "(IJ)I"⟩, prog_11_method_56_code, 6, some .int),
  (⟨"MaskedThrowsModel", "fill", "(IJ)I"⟩, prog_11_method_58_code, 4, some .int),
  (⟨"MaskedThrowsModel", "isBox", "(I)Z"⟩, prog_11_method_57_code, 1, some .boolean),
  (⟨"MaskedThrowsModel", "full", "(I)I"⟩, prog_11_method_59_code, 2, some .int),
  (⟨"MaskedThrowsModel", "box", "(I)J"⟩, prog_11_method_60_code, 2, some .long),
  (⟨"MaskedThrowsModel", "thread", "(II)I"⟩, prog_11_method_61_code, 7, some .int),
  (⟨"MaskedThrowsModel", "died", "(I)J"⟩, prog_11_method_62_code, 2, some .long),
  (⟨"MaskedThrowsModel", "local", "(II)J"⟩, prog_11_method_63_code, 3, some .long),
  (⟨"MaskedThrowsModel", "row", "(III)I"⟩, prog_11_method_65_code, 5, some .int),
  (⟨"MaskedThrowsModel", "isInRow", "(II)Z"⟩, prog_11_method_64_code, 3, some .boolean),
  (⟨"MaskedThrowsModel", "value", "(II)J"⟩, prog_11_method_66_code, 3, some .long),
  (⟨"MaskedThrowsModel", "stuck", "()I"⟩, prog_11_method_69_code, 2, some .int),
  (⟨"MaskedThrowsModel", "wouldStep", "(I)Z"⟩, prog_11_method_68_code, 4, some .boolean),
  (⟨"MaskedThrowsModel", "copyToSpare", "(I)V"⟩, prog_11_method_67_code, 5, none),
  (⟨"MaskedThrowsModel", "clock", "()I"⟩, prog_11_method_70_code, 1, some .int),
  (⟨"MaskedThrowsModel", "notes", "()I"⟩, prog_11_method_71_code, 1, some .int),
  (⟨"MaskedThrowsModel", "note", "(II)I"⟩, prog_11_method_72_code, 3, some .int),
  (⟨"MaskedThrowsModel", "noted", "(I)J"⟩, prog_11_method_73_code, 2, some .long),
  (⟨"MaskedThrowsModel", "clear", "()I"⟩, prog_11_method_74_code, 4, some .int),
  (x, code, maxLocals, ret)]
def mtd (j : Nat) : MethodName × ByteArray × Nat × Option FieldType := mtl.getD j (x, code, maxLocals, ret)
def mY (j : Nat) : MethodName := (mtd j).1
def mB (j : Nat) : ByteArray := (mtd j).2.1
def mL (j : Nat) : Nat := (mtd j).2.2.1
def mR (j : Nat) : Option FieldType := (mtd j).2.2.2
def mW (j : Nat) : List Cond := .code (mY j) (mB j) (mL j) (mR j) :: gw
set_option maxRecDepth 100000 in
theorem mtl_codes : tables_1.filter k2_isCode = (mtl.take 197).map (fun q => Cond.code q.1 q.2.1 q.2.2.1 q.2.2.2) := by rfl
theorem m_code {j : Nat} (h : j < 197) : Cond.code (mY j) (mB j) (mL j) (mR j) ∈ gw := by
  have h1 : mtl[j]? = some (mtd j) := by
    have hl : j < mtl.length := Nat.lt_of_lt_of_le h (by decide +kernel)
    rw [mtd, List.getD_eq_getElem?_getD, List.getElem?_eq_getElem hl]; rfl
  have h2 : mtd j ∈ mtl.take 197 := by
    refine List.mem_of_getElem? (i := j) ?_
    rw [List.getElem?_take_of_lt h]; exact h1
  have h3 : Cond.code (mY j) (mB j) (mL j) (mR j) ∈ tables_1.filter k2_isCode := by
    rw [mtl_codes]; exact List.mem_map.mpr ⟨_, h2, rfl⟩
  exact gw_mem (List.mem_append_right _ (List.mem_filter.mp h3).1) rfl
/-- what a call of an instance method needs, beside its link: (method, parameters) -/
theorem mI0 : Cond.instanceMethod (mY 0) ∈ gw := gw_t (i := 19) (by decide +kernel) (by decide +kernel)
theorem mG0 : Cond.initialized (mY 0).cls ∈ gw := gw_t (i := 1) (by decide +kernel) (by decide +kernel)
theorem mI1 : Cond.instanceMethod (mY 1) ∈ gw := gw_t (i := 22) (by decide +kernel) (by decide +kernel)
theorem mI2 : Cond.instanceMethod (mY 2) ∈ gw := gw_t (i := 27) (by decide +kernel) (by decide +kernel)
theorem mG2 : Cond.initialized (mY 2).cls ∈ gw := gw_t (i := 2) (by decide +kernel) (by decide +kernel)
theorem mI3 : Cond.instanceMethod (mY 3) ∈ gw := gw_t (i := 33) (by decide +kernel) (by decide +kernel)
theorem mG3 : Cond.initialized (mY 3).cls ∈ gw := gw_t (i := 3) (by decide +kernel) (by decide +kernel)
theorem mI4 : Cond.instanceMethod (mY 4) ∈ gw := gw_t (i := 67) (by decide +kernel) (by decide +kernel)
theorem mG4 : Cond.initialized (mY 4).cls ∈ gw := gw_t (i := 4) (by decide +kernel) (by decide +kernel)
theorem mI5 : Cond.instanceMethod (mY 5) ∈ gw := gw_t (i := 138) (by decide +kernel) (by decide +kernel)
theorem mG5 : Cond.initialized (mY 5).cls ∈ gw := gw_t (i := 5) (by decide +kernel) (by decide +kernel)
theorem mI6 : Cond.instanceMethod (mY 6) ∈ gw := gw_t (i := 144) (by decide +kernel) (by decide +kernel)
theorem mG6 : Cond.initialized (mY 6).cls ∈ gw := gw_t (i := 6) (by decide +kernel) (by decide +kernel)
theorem mI7 : Cond.instanceMethod (mY 7) ∈ gw := gw_t (i := 182) (by decide +kernel) (by decide +kernel)
theorem mG7 : Cond.initialized (mY 7).cls ∈ gw := gw_t (i := 7) (by decide +kernel) (by decide +kernel)
theorem mI8 : Cond.instanceMethod (mY 8) ∈ gw := gw_t (i := 188) (by decide +kernel) (by decide +kernel)
theorem mG8 : Cond.initialized (mY 8).cls ∈ gw := gw_t (i := 8) (by decide +kernel) (by decide +kernel)
theorem mI9 : Cond.instanceMethod (mY 9) ∈ gw := gw_t (i := 216) (by decide +kernel) (by decide +kernel)
theorem mG9 : Cond.initialized (mY 9).cls ∈ gw := gw_t (i := 9) (by decide +kernel) (by decide +kernel)
theorem mI10 : Cond.instanceMethod (mY 10) ∈ gw := gw_t (i := 363) (by decide +kernel) (by decide +kernel)
theorem mS10 : Cond.selects (mY 10).cls (mY 10) (mY 10) ∈ gw := gw_t (i := 364) (by decide +kernel) (by decide +kernel)
theorem mG10 : Cond.initialized (mY 10).cls ∈ gw := gw_t (i := 1) (by decide +kernel) (by decide +kernel)
theorem mI11 : Cond.instanceMethod (mY 11) ∈ gw := gw_t (i := 368) (by decide +kernel) (by decide +kernel)
theorem mS11 : Cond.selects (mY 11).cls (mY 11) (mY 11) ∈ gw := gw_p (i := 0) (by decide +kernel) (by decide +kernel)
theorem mG11 : Cond.initialized (mY 11).cls ∈ gw := gw_t (i := 1) (by decide +kernel) (by decide +kernel)
theorem mI12 : Cond.instanceMethod (mY 12) ∈ gw := gw_t (i := 371) (by decide +kernel) (by decide +kernel)
theorem mS12 : Cond.selects (mY 12).cls (mY 12) (mY 12) ∈ gw := gw_t (i := 372) (by decide +kernel) (by decide +kernel)
theorem mG12 : Cond.initialized (mY 12).cls ∈ gw := gw_t (i := 1) (by decide +kernel) (by decide +kernel)
theorem mI13 : Cond.instanceMethod (mY 13) ∈ gw := gw_t (i := 375) (by decide +kernel) (by decide +kernel)
theorem mS13 : Cond.selects (mY 13).cls (mY 13) (mY 13) ∈ gw := gw_t (i := 376) (by decide +kernel) (by decide +kernel)
theorem mG13 : Cond.initialized (mY 13).cls ∈ gw := gw_t (i := 1) (by decide +kernel) (by decide +kernel)
theorem mI14 : Cond.instanceMethod (mY 14) ∈ gw := gw_t (i := 379) (by decide +kernel) (by decide +kernel)
theorem mS14 : Cond.selects (mY 14).cls (mY 14) (mY 14) ∈ gw := gw_t (i := 380) (by decide +kernel) (by decide +kernel)
theorem mG14 : Cond.initialized (mY 14).cls ∈ gw := gw_t (i := 2) (by decide +kernel) (by decide +kernel)
theorem mI15 : Cond.instanceMethod (mY 15) ∈ gw := gw_t (i := 383) (by decide +kernel) (by decide +kernel)
theorem mS15 : Cond.selects (mY 15).cls (mY 15) (mY 15) ∈ gw := gw_t (i := 384) (by decide +kernel) (by decide +kernel)
theorem mG15 : Cond.initialized (mY 15).cls ∈ gw := gw_t (i := 3) (by decide +kernel) (by decide +kernel)
theorem mT16 : Cond.static (mY 16) ∈ gw := gw_t (i := 387) (by decide +kernel) (by decide +kernel)
theorem mG16 : Cond.initialized (mY 16).cls ∈ gw := gw_t (i := 3) (by decide +kernel) (by decide +kernel)
theorem mI17 : Cond.instanceMethod (mY 17) ∈ gw := gw_t (i := 391) (by decide +kernel) (by decide +kernel)
theorem mS17 : Cond.selects (mY 17).cls (mY 17) (mY 17) ∈ gw := gw_p (i := 1) (by decide +kernel) (by decide +kernel)
theorem mG17 : Cond.initialized (mY 17).cls ∈ gw := gw_t (i := 3) (by decide +kernel) (by decide +kernel)
theorem mT18 : Cond.static (mY 18) ∈ gw := gw_t (i := 394) (by decide +kernel) (by decide +kernel)
theorem mG18 : Cond.initialized (mY 18).cls ∈ gw := gw_t (i := 3) (by decide +kernel) (by decide +kernel)
theorem mT19 : Cond.static (mY 19) ∈ gw := gw_t (i := 397) (by decide +kernel) (by decide +kernel)
theorem mG19 : Cond.initialized (mY 19).cls ∈ gw := gw_t (i := 3) (by decide +kernel) (by decide +kernel)
theorem mI20 : Cond.instanceMethod (mY 20) ∈ gw := gw_t (i := 401) (by decide +kernel) (by decide +kernel)
theorem mS20 : Cond.selects (mY 20).cls (mY 20) (mY 20) ∈ gw := gw_t (i := 402) (by decide +kernel) (by decide +kernel)
theorem mG20 : Cond.initialized (mY 20).cls ∈ gw := gw_t (i := 11) (by decide +kernel) (by decide +kernel)
theorem mI21 : Cond.instanceMethod (mY 21) ∈ gw := gw_t (i := 405) (by decide +kernel) (by decide +kernel)
theorem mS21 : Cond.selects (mY 21).cls (mY 21) (mY 21) ∈ gw := gw_t (i := 406) (by decide +kernel) (by decide +kernel)
theorem mG21 : Cond.initialized (mY 21).cls ∈ gw := gw_t (i := 11) (by decide +kernel) (by decide +kernel)
theorem mT22 : Cond.static (mY 22) ∈ gw := gw_t (i := 411) (by decide +kernel) (by decide +kernel)
theorem mG22 : Cond.initialized (mY 22).cls ∈ gw := gw_t (i := 12) (by decide +kernel) (by decide +kernel)
theorem mT23 : Cond.static (mY 23) ∈ gw := gw_t (i := 414) (by decide +kernel) (by decide +kernel)
theorem mG23 : Cond.initialized (mY 23).cls ∈ gw := gw_t (i := 11) (by decide +kernel) (by decide +kernel)
theorem mT24 : Cond.static (mY 24) ∈ gw := gw_t (i := 419) (by decide +kernel) (by decide +kernel)
theorem mG24 : Cond.initialized (mY 24).cls ∈ gw := gw_t (i := 13) (by decide +kernel) (by decide +kernel)
theorem mT25 : Cond.static (mY 25) ∈ gw := gw_t (i := 422) (by decide +kernel) (by decide +kernel)
theorem mG25 : Cond.initialized (mY 25).cls ∈ gw := gw_t (i := 14) (by decide +kernel) (by decide +kernel)
theorem mT26 : Cond.static (mY 26) ∈ gw := gw_t (i := 425) (by decide +kernel) (by decide +kernel)
theorem mG26 : Cond.initialized (mY 26).cls ∈ gw := gw_t (i := 14) (by decide +kernel) (by decide +kernel)
theorem mT27 : Cond.static (mY 27) ∈ gw := gw_t (i := 428) (by decide +kernel) (by decide +kernel)
theorem mG27 : Cond.initialized (mY 27).cls ∈ gw := gw_t (i := 14) (by decide +kernel) (by decide +kernel)
theorem mT28 : Cond.static (mY 28) ∈ gw := gw_t (i := 432) (by decide +kernel) (by decide +kernel)
theorem mG28 : Cond.initialized (mY 28).cls ∈ gw := gw_t (i := 14) (by decide +kernel) (by decide +kernel)
theorem mI29 : Cond.instanceMethod (mY 29) ∈ gw := gw_t (i := 442) (by decide +kernel) (by decide +kernel)
theorem mS29 : Cond.selects (mY 29).cls (mY 29) (mY 29) ∈ gw := gw_p (i := 2) (by decide +kernel) (by decide +kernel)
theorem mG29 : Cond.initialized (mY 29).cls ∈ gw := gw_t (i := 3) (by decide +kernel) (by decide +kernel)
theorem mT30 : Cond.static (mY 30) ∈ gw := gw_t (i := 445) (by decide +kernel) (by decide +kernel)
theorem mG30 : Cond.initialized (mY 30).cls ∈ gw := gw_t (i := 3) (by decide +kernel) (by decide +kernel)
theorem mI31 : Cond.instanceMethod (mY 31) ∈ gw := gw_t (i := 449) (by decide +kernel) (by decide +kernel)
theorem mS31 : Cond.selects (mY 31).cls (mY 31) (mY 31) ∈ gw := gw_p (i := 3) (by decide +kernel) (by decide +kernel)
theorem mG31 : Cond.initialized (mY 31).cls ∈ gw := gw_t (i := 3) (by decide +kernel) (by decide +kernel)
theorem mT32 : Cond.static (mY 32) ∈ gw := gw_t (i := 452) (by decide +kernel) (by decide +kernel)
theorem mG32 : Cond.initialized (mY 32).cls ∈ gw := gw_t (i := 3) (by decide +kernel) (by decide +kernel)
theorem mI33 : Cond.instanceMethod (mY 33) ∈ gw := gw_t (i := 456) (by decide +kernel) (by decide +kernel)
theorem mS33 : Cond.selects (mY 33).cls (mY 33) (mY 33) ∈ gw := gw_t (i := 457) (by decide +kernel) (by decide +kernel)
theorem mG33 : Cond.initialized (mY 33).cls ∈ gw := gw_t (i := 11) (by decide +kernel) (by decide +kernel)
theorem mI34 : Cond.instanceMethod (mY 34) ∈ gw := gw_t (i := 460) (by decide +kernel) (by decide +kernel)
theorem mS34 : Cond.selects (mY 34).cls (mY 34) (mY 34) ∈ gw := gw_t (i := 461) (by decide +kernel) (by decide +kernel)
theorem mG34 : Cond.initialized (mY 34).cls ∈ gw := gw_t (i := 11) (by decide +kernel) (by decide +kernel)
theorem mI35 : Cond.instanceMethod (mY 35) ∈ gw := gw_t (i := 464) (by decide +kernel) (by decide +kernel)
theorem mS35 : Cond.selects (mY 35).cls (mY 35) (mY 35) ∈ gw := gw_t (i := 465) (by decide +kernel) (by decide +kernel)
theorem mG35 : Cond.initialized (mY 35).cls ∈ gw := gw_t (i := 4) (by decide +kernel) (by decide +kernel)
theorem mI36 : Cond.instanceMethod (mY 36) ∈ gw := gw_t (i := 469) (by decide +kernel) (by decide +kernel)
theorem mS36 : Cond.selects (mY 36).cls (mY 36) (mY 36) ∈ gw := gw_p (i := 4) (by decide +kernel) (by decide +kernel)
theorem mG36 : Cond.initialized (mY 36).cls ∈ gw := gw_t (i := 2) (by decide +kernel) (by decide +kernel)
theorem mI37 : Cond.instanceMethod (mY 37) ∈ gw := gw_t (i := 473) (by decide +kernel) (by decide +kernel)
theorem mS37 : Cond.selects (mY 37).cls (mY 37) (mY 37) ∈ gw := gw_p (i := 5) (by decide +kernel) (by decide +kernel)
theorem mG37 : Cond.initialized (mY 37).cls ∈ gw := gw_t (i := 2) (by decide +kernel) (by decide +kernel)
theorem mT38 : Cond.static (mY 38) ∈ gw := gw_t (i := 476) (by decide +kernel) (by decide +kernel)
theorem mG38 : Cond.initialized (mY 38).cls ∈ gw := gw_t (i := 2) (by decide +kernel) (by decide +kernel)
theorem mI39 : Cond.instanceMethod (mY 39) ∈ gw := gw_t (i := 479) (by decide +kernel) (by decide +kernel)
theorem mS39 : Cond.selects (mY 39).cls (mY 39) (mY 39) ∈ gw := gw_t (i := 480) (by decide +kernel) (by decide +kernel)
theorem mG39 : Cond.initialized (mY 39).cls ∈ gw := gw_t (i := 4) (by decide +kernel) (by decide +kernel)
theorem mI40 : Cond.instanceMethod (mY 40) ∈ gw := gw_t (i := 484) (by decide +kernel) (by decide +kernel)
theorem mS40 : Cond.selects (mY 40).cls (mY 40) (mY 40) ∈ gw := gw_p (i := 6) (by decide +kernel) (by decide +kernel)
theorem mG40 : Cond.initialized (mY 40).cls ∈ gw := gw_t (i := 2) (by decide +kernel) (by decide +kernel)
theorem mI41 : Cond.instanceMethod (mY 41) ∈ gw := gw_t (i := 488) (by decide +kernel) (by decide +kernel)
theorem mS41 : Cond.selects (mY 41).cls (mY 41) (mY 41) ∈ gw := gw_p (i := 7) (by decide +kernel) (by decide +kernel)
theorem mG41 : Cond.initialized (mY 41).cls ∈ gw := gw_t (i := 2) (by decide +kernel) (by decide +kernel)
theorem mI42 : Cond.instanceMethod (mY 42) ∈ gw := gw_t (i := 492) (by decide +kernel) (by decide +kernel)
theorem mS42 : Cond.selects (mY 42).cls (mY 42) (mY 42) ∈ gw := gw_p (i := 8) (by decide +kernel) (by decide +kernel)
theorem mG42 : Cond.initialized (mY 42).cls ∈ gw := gw_t (i := 2) (by decide +kernel) (by decide +kernel)
theorem mI43 : Cond.instanceMethod (mY 43) ∈ gw := gw_t (i := 496) (by decide +kernel) (by decide +kernel)
theorem mS43 : Cond.selects (mY 43).cls (mY 43) (mY 43) ∈ gw := gw_p (i := 9) (by decide +kernel) (by decide +kernel)
theorem mG43 : Cond.initialized (mY 43).cls ∈ gw := gw_t (i := 2) (by decide +kernel) (by decide +kernel)
theorem mI44 : Cond.instanceMethod (mY 44) ∈ gw := gw_t (i := 500) (by decide +kernel) (by decide +kernel)
theorem mS44 : Cond.selects (mY 44).cls (mY 44) (mY 44) ∈ gw := gw_p (i := 10) (by decide +kernel) (by decide +kernel)
theorem mG44 : Cond.initialized (mY 44).cls ∈ gw := gw_t (i := 2) (by decide +kernel) (by decide +kernel)
theorem mI45 : Cond.instanceMethod (mY 45) ∈ gw := gw_t (i := 504) (by decide +kernel) (by decide +kernel)
theorem mS45 : Cond.selects (mY 45).cls (mY 45) (mY 45) ∈ gw := gw_p (i := 11) (by decide +kernel) (by decide +kernel)
theorem mG45 : Cond.initialized (mY 45).cls ∈ gw := gw_t (i := 2) (by decide +kernel) (by decide +kernel)
theorem mI46 : Cond.instanceMethod (mY 46) ∈ gw := gw_t (i := 508) (by decide +kernel) (by decide +kernel)
theorem mS46 : Cond.selects (mY 46).cls (mY 46) (mY 46) ∈ gw := gw_p (i := 12) (by decide +kernel) (by decide +kernel)
theorem mG46 : Cond.initialized (mY 46).cls ∈ gw := gw_t (i := 2) (by decide +kernel) (by decide +kernel)
theorem mI47 : Cond.instanceMethod (mY 47) ∈ gw := gw_t (i := 511) (by decide +kernel) (by decide +kernel)
theorem mS47 : Cond.selects (mY 47).cls (mY 47) (mY 47) ∈ gw := gw_t (i := 512) (by decide +kernel) (by decide +kernel)
theorem mG47 : Cond.initialized (mY 47).cls ∈ gw := gw_t (i := 4) (by decide +kernel) (by decide +kernel)
theorem mI48 : Cond.instanceMethod (mY 48) ∈ gw := gw_t (i := 516) (by decide +kernel) (by decide +kernel)
theorem mS48 : Cond.selects (mY 48).cls (mY 48) (mY 48) ∈ gw := gw_p (i := 13) (by decide +kernel) (by decide +kernel)
theorem mG48 : Cond.initialized (mY 48).cls ∈ gw := gw_t (i := 2) (by decide +kernel) (by decide +kernel)
theorem mI49 : Cond.instanceMethod (mY 49) ∈ gw := gw_t (i := 520) (by decide +kernel) (by decide +kernel)
theorem mS49 : Cond.selects (mY 49).cls (mY 49) (mY 49) ∈ gw := gw_p (i := 14) (by decide +kernel) (by decide +kernel)
theorem mG49 : Cond.initialized (mY 49).cls ∈ gw := gw_t (i := 2) (by decide +kernel) (by decide +kernel)
theorem mT50 : Cond.static (mY 50) ∈ gw := gw_t (i := 523) (by decide +kernel) (by decide +kernel)
theorem mG50 : Cond.initialized (mY 50).cls ∈ gw := gw_t (i := 15) (by decide +kernel) (by decide +kernel)
theorem mI51 : Cond.instanceMethod (mY 51) ∈ gw := gw_t (i := 527) (by decide +kernel) (by decide +kernel)
theorem mS51 : Cond.selects (mY 51).cls (mY 51) (mY 51) ∈ gw := gw_p (i := 15) (by decide +kernel) (by decide +kernel)
theorem mG51 : Cond.initialized (mY 51).cls ∈ gw := gw_t (i := 2) (by decide +kernel) (by decide +kernel)
theorem mI52 : Cond.instanceMethod (mY 52) ∈ gw := gw_t (i := 531) (by decide +kernel) (by decide +kernel)
theorem mS52 : Cond.selects (mY 52).cls (mY 52) (mY 52) ∈ gw := gw_p (i := 16) (by decide +kernel) (by decide +kernel)
theorem mG52 : Cond.initialized (mY 52).cls ∈ gw := gw_t (i := 2) (by decide +kernel) (by decide +kernel)
theorem mI53 : Cond.instanceMethod (mY 53) ∈ gw := gw_t (i := 536) (by decide +kernel) (by decide +kernel)
theorem mS53 : Cond.selects (mY 53).cls (mY 53) (mY 53) ∈ gw := gw_t (i := 537) (by decide +kernel) (by decide +kernel)
theorem mG53 : Cond.initialized (mY 53).cls ∈ gw := gw_t (i := 1) (by decide +kernel) (by decide +kernel)
theorem mI54 : Cond.instanceMethod (mY 54) ∈ gw := gw_t (i := 540) (by decide +kernel) (by decide +kernel)
theorem mS54 : Cond.selects (mY 54).cls (mY 54) (mY 54) ∈ gw := gw_t (i := 541) (by decide +kernel) (by decide +kernel)
theorem mG54 : Cond.initialized (mY 54).cls ∈ gw := gw_t (i := 1) (by decide +kernel) (by decide +kernel)
theorem mI55 : Cond.instanceMethod (mY 55) ∈ gw := gw_t (i := 545) (by decide +kernel) (by decide +kernel)
theorem mS55 : Cond.selects (mY 55).cls (mY 55) (mY 55) ∈ gw := gw_p (i := 17) (by decide +kernel) (by decide +kernel)
theorem mG55 : Cond.initialized (mY 55).cls ∈ gw := gw_t (i := 1) (by decide +kernel) (by decide +kernel)
theorem mI56 : Cond.instanceMethod (mY 56) ∈ gw := gw_t (i := 548) (by decide +kernel) (by decide +kernel)
theorem mS56 : Cond.selects (mY 56).cls (mY 56) (mY 56) ∈ gw := gw_t (i := 549) (by decide +kernel) (by decide +kernel)
theorem mG56 : Cond.initialized (mY 56).cls ∈ gw := gw_t (i := 1) (by decide +kernel) (by decide +kernel)
theorem mT57 : Cond.static (mY 57) ∈ gw := gw_t (i := 552) (by decide +kernel) (by decide +kernel)
theorem mG57 : Cond.initialized (mY 57).cls ∈ gw := gw_t (i := 1) (by decide +kernel) (by decide +kernel)
theorem mI58 : Cond.instanceMethod (mY 58) ∈ gw := gw_t (i := 556) (by decide +kernel) (by decide +kernel)
theorem mS58 : Cond.selects (mY 58).cls (mY 58) (mY 58) ∈ gw := gw_p (i := 18) (by decide +kernel) (by decide +kernel)
theorem mG58 : Cond.initialized (mY 58).cls ∈ gw := gw_t (i := 1) (by decide +kernel) (by decide +kernel)
theorem mI59 : Cond.instanceMethod (mY 59) ∈ gw := gw_t (i := 559) (by decide +kernel) (by decide +kernel)
theorem mS59 : Cond.selects (mY 59).cls (mY 59) (mY 59) ∈ gw := gw_t (i := 560) (by decide +kernel) (by decide +kernel)
theorem mG59 : Cond.initialized (mY 59).cls ∈ gw := gw_t (i := 7) (by decide +kernel) (by decide +kernel)
theorem mI60 : Cond.instanceMethod (mY 60) ∈ gw := gw_t (i := 563) (by decide +kernel) (by decide +kernel)
theorem mS60 : Cond.selects (mY 60).cls (mY 60) (mY 60) ∈ gw := gw_t (i := 564) (by decide +kernel) (by decide +kernel)
theorem mG60 : Cond.initialized (mY 60).cls ∈ gw := gw_t (i := 7) (by decide +kernel) (by decide +kernel)
theorem mI61 : Cond.instanceMethod (mY 61) ∈ gw := gw_t (i := 568) (by decide +kernel) (by decide +kernel)
theorem mS61 : Cond.selects (mY 61).cls (mY 61) (mY 61) ∈ gw := gw_p (i := 19) (by decide +kernel) (by decide +kernel)
theorem mG61 : Cond.initialized (mY 61).cls ∈ gw := gw_t (i := 7) (by decide +kernel) (by decide +kernel)
theorem mI62 : Cond.instanceMethod (mY 62) ∈ gw := gw_t (i := 571) (by decide +kernel) (by decide +kernel)
theorem mS62 : Cond.selects (mY 62).cls (mY 62) (mY 62) ∈ gw := gw_t (i := 572) (by decide +kernel) (by decide +kernel)
theorem mG62 : Cond.initialized (mY 62).cls ∈ gw := gw_t (i := 9) (by decide +kernel) (by decide +kernel)
theorem mI63 : Cond.instanceMethod (mY 63) ∈ gw := gw_t (i := 575) (by decide +kernel) (by decide +kernel)
theorem mS63 : Cond.selects (mY 63).cls (mY 63) (mY 63) ∈ gw := gw_t (i := 576) (by decide +kernel) (by decide +kernel)
theorem mG63 : Cond.initialized (mY 63).cls ∈ gw := gw_t (i := 9) (by decide +kernel) (by decide +kernel)
theorem mI64 : Cond.instanceMethod (mY 64) ∈ gw := gw_t (i := 579) (by decide +kernel) (by decide +kernel)
theorem mS64 : Cond.selects (mY 64).cls (mY 64) (mY 64) ∈ gw := gw_t (i := 580) (by decide +kernel) (by decide +kernel)
theorem mG64 : Cond.initialized (mY 64).cls ∈ gw := gw_t (i := 1) (by decide +kernel) (by decide +kernel)
theorem mI65 : Cond.instanceMethod (mY 65) ∈ gw := gw_t (i := 583) (by decide +kernel) (by decide +kernel)
theorem mS65 : Cond.selects (mY 65).cls (mY 65) (mY 65) ∈ gw := gw_t (i := 584) (by decide +kernel) (by decide +kernel)
theorem mG65 : Cond.initialized (mY 65).cls ∈ gw := gw_t (i := 5) (by decide +kernel) (by decide +kernel)
theorem mI66 : Cond.instanceMethod (mY 66) ∈ gw := gw_t (i := 587) (by decide +kernel) (by decide +kernel)
theorem mS66 : Cond.selects (mY 66).cls (mY 66) (mY 66) ∈ gw := gw_t (i := 588) (by decide +kernel) (by decide +kernel)
theorem mG66 : Cond.initialized (mY 66).cls ∈ gw := gw_t (i := 7) (by decide +kernel) (by decide +kernel)
theorem mI67 : Cond.instanceMethod (mY 67) ∈ gw := gw_t (i := 591) (by decide +kernel) (by decide +kernel)
theorem mS67 : Cond.selects (mY 67).cls (mY 67) (mY 67) ∈ gw := gw_t (i := 592) (by decide +kernel) (by decide +kernel)
theorem mG67 : Cond.initialized (mY 67).cls ∈ gw := gw_t (i := 8) (by decide +kernel) (by decide +kernel)
theorem mI68 : Cond.instanceMethod (mY 68) ∈ gw := gw_t (i := 596) (by decide +kernel) (by decide +kernel)
theorem mS68 : Cond.selects (mY 68).cls (mY 68) (mY 68) ∈ gw := gw_p (i := 20) (by decide +kernel) (by decide +kernel)
theorem mG68 : Cond.initialized (mY 68).cls ∈ gw := gw_t (i := 5) (by decide +kernel) (by decide +kernel)
theorem mI69 : Cond.instanceMethod (mY 69) ∈ gw := gw_t (i := 599) (by decide +kernel) (by decide +kernel)
theorem mS69 : Cond.selects (mY 69).cls (mY 69) (mY 69) ∈ gw := gw_t (i := 600) (by decide +kernel) (by decide +kernel)
theorem mG69 : Cond.initialized (mY 69).cls ∈ gw := gw_t (i := 7) (by decide +kernel) (by decide +kernel)
theorem mI70 : Cond.instanceMethod (mY 70) ∈ gw := gw_t (i := 603) (by decide +kernel) (by decide +kernel)
theorem mS70 : Cond.selects (mY 70).cls (mY 70) (mY 70) ∈ gw := gw_t (i := 604) (by decide +kernel) (by decide +kernel)
theorem mG70 : Cond.initialized (mY 70).cls ∈ gw := gw_t (i := 7) (by decide +kernel) (by decide +kernel)
theorem mI71 : Cond.instanceMethod (mY 71) ∈ gw := gw_t (i := 608) (by decide +kernel) (by decide +kernel)
theorem mS71 : Cond.selects (mY 71).cls (mY 71) (mY 71) ∈ gw := gw_p (i := 21) (by decide +kernel) (by decide +kernel)
theorem mG71 : Cond.initialized (mY 71).cls ∈ gw := gw_t (i := 7) (by decide +kernel) (by decide +kernel)
theorem mI72 : Cond.instanceMethod (mY 72) ∈ gw := gw_t (i := 611) (by decide +kernel) (by decide +kernel)
theorem mS72 : Cond.selects (mY 72).cls (mY 72) (mY 72) ∈ gw := gw_t (i := 612) (by decide +kernel) (by decide +kernel)
theorem mG72 : Cond.initialized (mY 72).cls ∈ gw := gw_t (i := 4) (by decide +kernel) (by decide +kernel)
theorem mI73 : Cond.instanceMethod (mY 73) ∈ gw := gw_t (i := 616) (by decide +kernel) (by decide +kernel)
theorem mS73 : Cond.selects (mY 73).cls (mY 73) (mY 73) ∈ gw := gw_t (i := 617) (by decide +kernel) (by decide +kernel)
theorem mG73 : Cond.initialized (mY 73).cls ∈ gw := gw_t (i := 6) (by decide +kernel) (by decide +kernel)
theorem mI74 : Cond.instanceMethod (mY 74) ∈ gw := gw_t (i := 621) (by decide +kernel) (by decide +kernel)
theorem mS74 : Cond.selects (mY 74).cls (mY 74) (mY 74) ∈ gw := gw_p (i := 22) (by decide +kernel) (by decide +kernel)
theorem mG74 : Cond.initialized (mY 74).cls ∈ gw := gw_t (i := 7) (by decide +kernel) (by decide +kernel)
theorem mI75 : Cond.instanceMethod (mY 75) ∈ gw := gw_t (i := 626) (by decide +kernel) (by decide +kernel)
theorem mS75 : Cond.selects (mY 75).cls (mY 75) (mY 75) ∈ gw := gw_p (i := 23) (by decide +kernel) (by decide +kernel)
theorem mG75 : Cond.initialized (mY 75).cls ∈ gw := gw_t (i := 7) (by decide +kernel) (by decide +kernel)
theorem mI76 : Cond.instanceMethod (mY 76) ∈ gw := gw_t (i := 630) (by decide +kernel) (by decide +kernel)
theorem mS76 : Cond.selects (mY 76).cls (mY 76) (mY 76) ∈ gw := gw_p (i := 24) (by decide +kernel) (by decide +kernel)
theorem mG76 : Cond.initialized (mY 76).cls ∈ gw := gw_t (i := 7) (by decide +kernel) (by decide +kernel)
theorem mI77 : Cond.instanceMethod (mY 77) ∈ gw := gw_t (i := 633) (by decide +kernel) (by decide +kernel)
theorem mS77 : Cond.selects (mY 77).cls (mY 77) (mY 77) ∈ gw := gw_t (i := 634) (by decide +kernel) (by decide +kernel)
theorem mG77 : Cond.initialized (mY 77).cls ∈ gw := gw_t (i := 8) (by decide +kernel) (by decide +kernel)
theorem mI78 : Cond.instanceMethod (mY 78) ∈ gw := gw_t (i := 637) (by decide +kernel) (by decide +kernel)
theorem mS78 : Cond.selects (mY 78).cls (mY 78) (mY 78) ∈ gw := gw_t (i := 638) (by decide +kernel) (by decide +kernel)
theorem mG78 : Cond.initialized (mY 78).cls ∈ gw := gw_t (i := 8) (by decide +kernel) (by decide +kernel)
theorem mI79 : Cond.instanceMethod (mY 79) ∈ gw := gw_t (i := 641) (by decide +kernel) (by decide +kernel)
theorem mS79 : Cond.selects (mY 79).cls (mY 79) (mY 79) ∈ gw := gw_t (i := 642) (by decide +kernel) (by decide +kernel)
theorem mG79 : Cond.initialized (mY 79).cls ∈ gw := gw_t (i := 7) (by decide +kernel) (by decide +kernel)
theorem mI80 : Cond.instanceMethod (mY 80) ∈ gw := gw_t (i := 646) (by decide +kernel) (by decide +kernel)
theorem mS80 : Cond.selects (mY 80).cls (mY 80) (mY 80) ∈ gw := gw_p (i := 25) (by decide +kernel) (by decide +kernel)
theorem mG80 : Cond.initialized (mY 80).cls ∈ gw := gw_t (i := 5) (by decide +kernel) (by decide +kernel)
theorem mI81 : Cond.instanceMethod (mY 81) ∈ gw := gw_t (i := 650) (by decide +kernel) (by decide +kernel)
theorem mS81 : Cond.selects (mY 81).cls (mY 81) (mY 81) ∈ gw := gw_p (i := 26) (by decide +kernel) (by decide +kernel)
theorem mG81 : Cond.initialized (mY 81).cls ∈ gw := gw_t (i := 5) (by decide +kernel) (by decide +kernel)
theorem mI82 : Cond.instanceMethod (mY 82) ∈ gw := gw_t (i := 653) (by decide +kernel) (by decide +kernel)
theorem mS82 : Cond.selects (mY 82).cls (mY 82) (mY 82) ∈ gw := gw_t (i := 654) (by decide +kernel) (by decide +kernel)
theorem mG82 : Cond.initialized (mY 82).cls ∈ gw := gw_t (i := 8) (by decide +kernel) (by decide +kernel)
theorem mI83 : Cond.instanceMethod (mY 83) ∈ gw := gw_t (i := 660) (by decide +kernel) (by decide +kernel)
theorem mS83 : Cond.selects (mY 83).cls (mY 83) (mY 83) ∈ gw := gw_t (i := 661) (by decide +kernel) (by decide +kernel)
theorem mG83 : Cond.initialized (mY 83).cls ∈ gw := gw_t (i := 7) (by decide +kernel) (by decide +kernel)
theorem mI84 : Cond.instanceMethod (mY 84) ∈ gw := gw_t (i := 665) (by decide +kernel) (by decide +kernel)
theorem mS84 : Cond.selects (mY 84).cls (mY 84) (mY 84) ∈ gw := gw_p (i := 27) (by decide +kernel) (by decide +kernel)
theorem mG84 : Cond.initialized (mY 84).cls ∈ gw := gw_t (i := 5) (by decide +kernel) (by decide +kernel)
theorem mI85 : Cond.instanceMethod (mY 85) ∈ gw := gw_t (i := 668) (by decide +kernel) (by decide +kernel)
theorem mS85 : Cond.selects (mY 85).cls (mY 85) (mY 85) ∈ gw := gw_t (i := 669) (by decide +kernel) (by decide +kernel)
theorem mG85 : Cond.initialized (mY 85).cls ∈ gw := gw_t (i := 4) (by decide +kernel) (by decide +kernel)
theorem mT86 : Cond.static (mY 86) ∈ gw := gw_t (i := 672) (by decide +kernel) (by decide +kernel)
theorem mG86 : Cond.initialized (mY 86).cls ∈ gw := gw_t (i := 4) (by decide +kernel) (by decide +kernel)
theorem mI87 : Cond.instanceMethod (mY 87) ∈ gw := gw_t (i := 676) (by decide +kernel) (by decide +kernel)
theorem mS87 : Cond.selects (mY 87).cls (mY 87) (mY 87) ∈ gw := gw_t (i := 677) (by decide +kernel) (by decide +kernel)
theorem mG87 : Cond.initialized (mY 87).cls ∈ gw := gw_t (i := 7) (by decide +kernel) (by decide +kernel)
theorem mI88 : Cond.instanceMethod (mY 88) ∈ gw := gw_t (i := 681) (by decide +kernel) (by decide +kernel)
theorem mS88 : Cond.selects (mY 88).cls (mY 88) (mY 88) ∈ gw := gw_p (i := 28) (by decide +kernel) (by decide +kernel)
theorem mG88 : Cond.initialized (mY 88).cls ∈ gw := gw_t (i := 5) (by decide +kernel) (by decide +kernel)
theorem mI89 : Cond.instanceMethod (mY 89) ∈ gw := gw_t (i := 685) (by decide +kernel) (by decide +kernel)
theorem mS89 : Cond.selects (mY 89).cls (mY 89) (mY 89) ∈ gw := gw_p (i := 29) (by decide +kernel) (by decide +kernel)
theorem mG89 : Cond.initialized (mY 89).cls ∈ gw := gw_t (i := 5) (by decide +kernel) (by decide +kernel)
theorem mI90 : Cond.instanceMethod (mY 90) ∈ gw := gw_t (i := 689) (by decide +kernel) (by decide +kernel)
theorem mS90 : Cond.selects (mY 90).cls (mY 90) (mY 90) ∈ gw := gw_p (i := 30) (by decide +kernel) (by decide +kernel)
theorem mG90 : Cond.initialized (mY 90).cls ∈ gw := gw_t (i := 5) (by decide +kernel) (by decide +kernel)
theorem mT91 : Cond.static (mY 91) ∈ gw := gw_t (i := 692) (by decide +kernel) (by decide +kernel)
theorem mG91 : Cond.initialized (mY 91).cls ∈ gw := gw_t (i := 5) (by decide +kernel) (by decide +kernel)
theorem mI92 : Cond.instanceMethod (mY 92) ∈ gw := gw_t (i := 696) (by decide +kernel) (by decide +kernel)
theorem mS92 : Cond.selects (mY 92).cls (mY 92) (mY 92) ∈ gw := gw_p (i := 31) (by decide +kernel) (by decide +kernel)
theorem mG92 : Cond.initialized (mY 92).cls ∈ gw := gw_t (i := 5) (by decide +kernel) (by decide +kernel)
theorem mI93 : Cond.instanceMethod (mY 93) ∈ gw := gw_t (i := 701) (by decide +kernel) (by decide +kernel)
theorem mS93 : Cond.selects (mY 93).cls (mY 93) (mY 93) ∈ gw := gw_t (i := 702) (by decide +kernel) (by decide +kernel)
theorem mG93 : Cond.initialized (mY 93).cls ∈ gw := gw_t (i := 7) (by decide +kernel) (by decide +kernel)
theorem mI94 : Cond.instanceMethod (mY 94) ∈ gw := gw_t (i := 706) (by decide +kernel) (by decide +kernel)
theorem mS94 : Cond.selects (mY 94).cls (mY 94) (mY 94) ∈ gw := gw_p (i := 32) (by decide +kernel) (by decide +kernel)
theorem mG94 : Cond.initialized (mY 94).cls ∈ gw := gw_t (i := 7) (by decide +kernel) (by decide +kernel)
theorem mI95 : Cond.instanceMethod (mY 95) ∈ gw := gw_t (i := 711) (by decide +kernel) (by decide +kernel)
theorem mS95 : Cond.selects (mY 95).cls (mY 95) (mY 95) ∈ gw := gw_p (i := 33) (by decide +kernel) (by decide +kernel)
theorem mG95 : Cond.initialized (mY 95).cls ∈ gw := gw_t (i := 7) (by decide +kernel) (by decide +kernel)
theorem mI96 : Cond.instanceMethod (mY 96) ∈ gw := gw_t (i := 714) (by decide +kernel) (by decide +kernel)
theorem mS96 : Cond.selects (mY 96).cls (mY 96) (mY 96) ∈ gw := gw_t (i := 715) (by decide +kernel) (by decide +kernel)
theorem mG96 : Cond.initialized (mY 96).cls ∈ gw := gw_t (i := 1) (by decide +kernel) (by decide +kernel)
theorem mI97 : Cond.instanceMethod (mY 97) ∈ gw := gw_t (i := 720) (by decide +kernel) (by decide +kernel)
theorem mS97 : Cond.selects (mY 97).cls (mY 97) (mY 97) ∈ gw := gw_t (i := 721) (by decide +kernel) (by decide +kernel)
theorem mG97 : Cond.initialized (mY 97).cls ∈ gw := gw_t (i := 1) (by decide +kernel) (by decide +kernel)
theorem mI98 : Cond.instanceMethod (mY 98) ∈ gw := gw_t (i := 724) (by decide +kernel) (by decide +kernel)
theorem mS98 : Cond.selects (mY 98).cls (mY 98) (mY 98) ∈ gw := gw_t (i := 725) (by decide +kernel) (by decide +kernel)
theorem mG98 : Cond.initialized (mY 98).cls ∈ gw := gw_t (i := 8) (by decide +kernel) (by decide +kernel)
theorem mI99 : Cond.instanceMethod (mY 99) ∈ gw := gw_t (i := 729) (by decide +kernel) (by decide +kernel)
theorem mS99 : Cond.selects (mY 99).cls (mY 99) (mY 99) ∈ gw := gw_t (i := 730) (by decide +kernel) (by decide +kernel)
theorem mG99 : Cond.initialized (mY 99).cls ∈ gw := gw_t (i := 1) (by decide +kernel) (by decide +kernel)
theorem mT100 : Cond.static (mY 100) ∈ gw := gw_t (i := 733) (by decide +kernel) (by decide +kernel)
theorem mG100 : Cond.initialized (mY 100).cls ∈ gw := gw_t (i := 1) (by decide +kernel) (by decide +kernel)
theorem mI101 : Cond.instanceMethod (mY 101) ∈ gw := gw_t (i := 736) (by decide +kernel) (by decide +kernel)
theorem mS101 : Cond.selects (mY 101).cls (mY 101) (mY 101) ∈ gw := gw_t (i := 737) (by decide +kernel) (by decide +kernel)
theorem mG101 : Cond.initialized (mY 101).cls ∈ gw := gw_t (i := 1) (by decide +kernel) (by decide +kernel)
theorem mI102 : Cond.instanceMethod (mY 102) ∈ gw := gw_t (i := 740) (by decide +kernel) (by decide +kernel)
theorem mS102 : Cond.selects (mY 102).cls (mY 102) (mY 102) ∈ gw := gw_t (i := 741) (by decide +kernel) (by decide +kernel)
theorem mG102 : Cond.initialized (mY 102).cls ∈ gw := gw_t (i := 1) (by decide +kernel) (by decide +kernel)
theorem mI103 : Cond.instanceMethod (mY 103) ∈ gw := gw_t (i := 744) (by decide +kernel) (by decide +kernel)
theorem mS103 : Cond.selects (mY 103).cls (mY 103) (mY 103) ∈ gw := gw_t (i := 745) (by decide +kernel) (by decide +kernel)
theorem mG103 : Cond.initialized (mY 103).cls ∈ gw := gw_t (i := 1) (by decide +kernel) (by decide +kernel)
theorem mI104 : Cond.instanceMethod (mY 104) ∈ gw := gw_t (i := 748) (by decide +kernel) (by decide +kernel)
theorem mS104 : Cond.selects (mY 104).cls (mY 104) (mY 104) ∈ gw := gw_t (i := 749) (by decide +kernel) (by decide +kernel)
theorem mG104 : Cond.initialized (mY 104).cls ∈ gw := gw_t (i := 7) (by decide +kernel) (by decide +kernel)
theorem mI105 : Cond.instanceMethod (mY 105) ∈ gw := gw_t (i := 752) (by decide +kernel) (by decide +kernel)
theorem mS105 : Cond.selects (mY 105).cls (mY 105) (mY 105) ∈ gw := gw_t (i := 753) (by decide +kernel) (by decide +kernel)
theorem mG105 : Cond.initialized (mY 105).cls ∈ gw := gw_t (i := 1) (by decide +kernel) (by decide +kernel)
theorem mI106 : Cond.instanceMethod (mY 106) ∈ gw := gw_t (i := 756) (by decide +kernel) (by decide +kernel)
theorem mS106 : Cond.selects (mY 106).cls (mY 106) (mY 106) ∈ gw := gw_t (i := 757) (by decide +kernel) (by decide +kernel)
theorem mG106 : Cond.initialized (mY 106).cls ∈ gw := gw_t (i := 1) (by decide +kernel) (by decide +kernel)
theorem mI107 : Cond.instanceMethod (mY 107) ∈ gw := gw_t (i := 760) (by decide +kernel) (by decide +kernel)
theorem mS107 : Cond.selects (mY 107).cls (mY 107) (mY 107) ∈ gw := gw_t (i := 761) (by decide +kernel) (by decide +kernel)
theorem mG107 : Cond.initialized (mY 107).cls ∈ gw := gw_t (i := 1) (by decide +kernel) (by decide +kernel)
theorem mI108 : Cond.instanceMethod (mY 108) ∈ gw := gw_t (i := 765) (by decide +kernel) (by decide +kernel)
theorem mS108 : Cond.selects (mY 108).cls (mY 108) (mY 108) ∈ gw := gw_p (i := 34) (by decide +kernel) (by decide +kernel)
theorem mG108 : Cond.initialized (mY 108).cls ∈ gw := gw_t (i := 1) (by decide +kernel) (by decide +kernel)
theorem mI109 : Cond.instanceMethod (mY 109) ∈ gw := gw_t (i := 768) (by decide +kernel) (by decide +kernel)
theorem mS109 : Cond.selects (mY 109).cls (mY 109) (mY 109) ∈ gw := gw_t (i := 769) (by decide +kernel) (by decide +kernel)
theorem mG109 : Cond.initialized (mY 109).cls ∈ gw := gw_t (i := 1) (by decide +kernel) (by decide +kernel)
theorem mI110 : Cond.instanceMethod (mY 110) ∈ gw := gw_t (i := 772) (by decide +kernel) (by decide +kernel)
theorem mS110 : Cond.selects (mY 110).cls (mY 110) (mY 110) ∈ gw := gw_t (i := 773) (by decide +kernel) (by decide +kernel)
theorem mG110 : Cond.initialized (mY 110).cls ∈ gw := gw_t (i := 1) (by decide +kernel) (by decide +kernel)
theorem mI111 : Cond.instanceMethod (mY 111) ∈ gw := gw_t (i := 776) (by decide +kernel) (by decide +kernel)
theorem mS111 : Cond.selects (mY 111).cls (mY 111) (mY 111) ∈ gw := gw_t (i := 777) (by decide +kernel) (by decide +kernel)
theorem mG111 : Cond.initialized (mY 111).cls ∈ gw := gw_t (i := 5) (by decide +kernel) (by decide +kernel)
theorem mI112 : Cond.instanceMethod (mY 112) ∈ gw := gw_t (i := 781) (by decide +kernel) (by decide +kernel)
theorem mS112 : Cond.selects (mY 112).cls (mY 112) (mY 112) ∈ gw := gw_p (i := 35) (by decide +kernel) (by decide +kernel)
theorem mG112 : Cond.initialized (mY 112).cls ∈ gw := gw_t (i := 5) (by decide +kernel) (by decide +kernel)
theorem mI113 : Cond.instanceMethod (mY 113) ∈ gw := gw_t (i := 784) (by decide +kernel) (by decide +kernel)
theorem mS113 : Cond.selects (mY 113).cls (mY 113) (mY 113) ∈ gw := gw_t (i := 785) (by decide +kernel) (by decide +kernel)
theorem mG113 : Cond.initialized (mY 113).cls ∈ gw := gw_t (i := 7) (by decide +kernel) (by decide +kernel)
theorem mI114 : Cond.instanceMethod (mY 114) ∈ gw := gw_t (i := 788) (by decide +kernel) (by decide +kernel)
theorem mS114 : Cond.selects (mY 114).cls (mY 114) (mY 114) ∈ gw := gw_t (i := 789) (by decide +kernel) (by decide +kernel)
theorem mG114 : Cond.initialized (mY 114).cls ∈ gw := gw_t (i := 8) (by decide +kernel) (by decide +kernel)
theorem mI115 : Cond.instanceMethod (mY 115) ∈ gw := gw_t (i := 792) (by decide +kernel) (by decide +kernel)
theorem mS115 : Cond.selects (mY 115).cls (mY 115) (mY 115) ∈ gw := gw_t (i := 793) (by decide +kernel) (by decide +kernel)
theorem mG115 : Cond.initialized (mY 115).cls ∈ gw := gw_t (i := 9) (by decide +kernel) (by decide +kernel)
theorem mI116 : Cond.instanceMethod (mY 116) ∈ gw := gw_t (i := 796) (by decide +kernel) (by decide +kernel)
theorem mS116 : Cond.selects (mY 116).cls (mY 116) (mY 116) ∈ gw := gw_t (i := 797) (by decide +kernel) (by decide +kernel)
theorem mG116 : Cond.initialized (mY 116).cls ∈ gw := gw_t (i := 1) (by decide +kernel) (by decide +kernel)
theorem mI117 : Cond.instanceMethod (mY 117) ∈ gw := gw_t (i := 800) (by decide +kernel) (by decide +kernel)
theorem mS117 : Cond.selects (mY 117).cls (mY 117) (mY 117) ∈ gw := gw_t (i := 801) (by decide +kernel) (by decide +kernel)
theorem mG117 : Cond.initialized (mY 117).cls ∈ gw := gw_t (i := 1) (by decide +kernel) (by decide +kernel)
theorem mI118 : Cond.instanceMethod (mY 118) ∈ gw := gw_t (i := 804) (by decide +kernel) (by decide +kernel)
theorem mS118 : Cond.selects (mY 118).cls (mY 118) (mY 118) ∈ gw := gw_t (i := 805) (by decide +kernel) (by decide +kernel)
theorem mG118 : Cond.initialized (mY 118).cls ∈ gw := gw_t (i := 1) (by decide +kernel) (by decide +kernel)
theorem mI119 : Cond.instanceMethod (mY 119) ∈ gw := gw_t (i := 809) (by decide +kernel) (by decide +kernel)
theorem mS119 : Cond.selects (mY 119).cls (mY 119) (mY 119) ∈ gw := gw_p (i := 36) (by decide +kernel) (by decide +kernel)
theorem mG119 : Cond.initialized (mY 119).cls ∈ gw := gw_t (i := 1) (by decide +kernel) (by decide +kernel)
theorem mI120 : Cond.instanceMethod (mY 120) ∈ gw := gw_t (i := 812) (by decide +kernel) (by decide +kernel)
theorem mS120 : Cond.selects (mY 120).cls (mY 120) (mY 120) ∈ gw := gw_t (i := 813) (by decide +kernel) (by decide +kernel)
theorem mG120 : Cond.initialized (mY 120).cls ∈ gw := gw_t (i := 1) (by decide +kernel) (by decide +kernel)
theorem mI121 : Cond.instanceMethod (mY 121) ∈ gw := gw_t (i := 816) (by decide +kernel) (by decide +kernel)
theorem mS121 : Cond.selects (mY 121).cls (mY 121) (mY 121) ∈ gw := gw_t (i := 817) (by decide +kernel) (by decide +kernel)
theorem mG121 : Cond.initialized (mY 121).cls ∈ gw := gw_t (i := 1) (by decide +kernel) (by decide +kernel)
theorem mI122 : Cond.instanceMethod (mY 122) ∈ gw := gw_t (i := 820) (by decide +kernel) (by decide +kernel)
theorem mS122 : Cond.selects (mY 122).cls (mY 122) (mY 122) ∈ gw := gw_t (i := 821) (by decide +kernel) (by decide +kernel)
theorem mG122 : Cond.initialized (mY 122).cls ∈ gw := gw_t (i := 5) (by decide +kernel) (by decide +kernel)
theorem mI123 : Cond.instanceMethod (mY 123) ∈ gw := gw_t (i := 827) (by decide +kernel) (by decide +kernel)
theorem mG123 : Cond.initialized (mY 123).cls ∈ gw := gw_t (i := 10) (by decide +kernel) (by decide +kernel)
theorem mI124 : Cond.instanceMethod (mY 124) ∈ gw := gw_t (i := 1039) (by decide +kernel) (by decide +kernel)
theorem mS124 : Cond.selects (mY 124).cls (mY 124) (mY 124) ∈ gw := gw_t (i := 1040) (by decide +kernel) (by decide +kernel)
theorem mG124 : Cond.initialized (mY 124).cls ∈ gw := gw_t (i := 10) (by decide +kernel) (by decide +kernel)
theorem mI125 : Cond.instanceMethod (mY 125) ∈ gw := gw_t (i := 1043) (by decide +kernel) (by decide +kernel)
theorem mS125 : Cond.selects (mY 125).cls (mY 125) (mY 125) ∈ gw := gw_t (i := 1044) (by decide +kernel) (by decide +kernel)
theorem mG125 : Cond.initialized (mY 125).cls ∈ gw := gw_t (i := 10) (by decide +kernel) (by decide +kernel)
theorem mI126 : Cond.instanceMethod (mY 126) ∈ gw := gw_t (i := 1047) (by decide +kernel) (by decide +kernel)
theorem mS126 : Cond.selects (mY 126).cls (mY 126) (mY 126) ∈ gw := gw_t (i := 1048) (by decide +kernel) (by decide +kernel)
theorem mG126 : Cond.initialized (mY 126).cls ∈ gw := gw_t (i := 10) (by decide +kernel) (by decide +kernel)
theorem mI127 : Cond.instanceMethod (mY 127) ∈ gw := gw_t (i := 1052) (by decide +kernel) (by decide +kernel)
theorem mS127 : Cond.selects (mY 127).cls (mY 127) (mY 127) ∈ gw := gw_p (i := 37) (by decide +kernel) (by decide +kernel)
theorem mG127 : Cond.initialized (mY 127).cls ∈ gw := gw_t (i := 10) (by decide +kernel) (by decide +kernel)
theorem mI128 : Cond.instanceMethod (mY 128) ∈ gw := gw_t (i := 1056) (by decide +kernel) (by decide +kernel)
theorem mS128 : Cond.selects (mY 128).cls (mY 128) (mY 128) ∈ gw := gw_p (i := 38) (by decide +kernel) (by decide +kernel)
theorem mG128 : Cond.initialized (mY 128).cls ∈ gw := gw_t (i := 10) (by decide +kernel) (by decide +kernel)
theorem mI129 : Cond.instanceMethod (mY 129) ∈ gw := gw_t (i := 1060) (by decide +kernel) (by decide +kernel)
theorem mS129 : Cond.selects (mY 129).cls (mY 129) (mY 129) ∈ gw := gw_p (i := 39) (by decide +kernel) (by decide +kernel)
theorem mG129 : Cond.initialized (mY 129).cls ∈ gw := gw_t (i := 10) (by decide +kernel) (by decide +kernel)
theorem mT130 : Cond.static (mY 130) ∈ gw := gw_t (i := 1063) (by decide +kernel) (by decide +kernel)
theorem mG130 : Cond.initialized (mY 130).cls ∈ gw := gw_t (i := 10) (by decide +kernel) (by decide +kernel)
theorem mT131 : Cond.static (mY 131) ∈ gw := gw_t (i := 1066) (by decide +kernel) (by decide +kernel)
theorem mG131 : Cond.initialized (mY 131).cls ∈ gw := gw_t (i := 10) (by decide +kernel) (by decide +kernel)
theorem mT132 : Cond.static (mY 132) ∈ gw := gw_t (i := 1088) (by decide +kernel) (by decide +kernel)
theorem mG132 : Cond.initialized (mY 132).cls ∈ gw := gw_t (i := 10) (by decide +kernel) (by decide +kernel)
theorem mT133 : Cond.static (mY 133) ∈ gw := gw_t (i := 1093) (by decide +kernel) (by decide +kernel)
theorem mG133 : Cond.initialized (mY 133).cls ∈ gw := gw_t (i := 10) (by decide +kernel) (by decide +kernel)
theorem mI134 : Cond.instanceMethod (mY 134) ∈ gw := gw_t (i := 1097) (by decide +kernel) (by decide +kernel)
theorem mS134 : Cond.selects (mY 134).cls (mY 134) (mY 134) ∈ gw := gw_p (i := 40) (by decide +kernel) (by decide +kernel)
theorem mG134 : Cond.initialized (mY 134).cls ∈ gw := gw_t (i := 10) (by decide +kernel) (by decide +kernel)
theorem mI135 : Cond.instanceMethod (mY 135) ∈ gw := gw_t (i := 1101) (by decide +kernel) (by decide +kernel)
theorem mS135 : Cond.selects (mY 135).cls (mY 135) (mY 135) ∈ gw := gw_p (i := 41) (by decide +kernel) (by decide +kernel)
theorem mG135 : Cond.initialized (mY 135).cls ∈ gw := gw_t (i := 10) (by decide +kernel) (by decide +kernel)
theorem mI136 : Cond.instanceMethod (mY 136) ∈ gw := gw_t (i := 1105) (by decide +kernel) (by decide +kernel)
theorem mS136 : Cond.selects (mY 136).cls (mY 136) (mY 136) ∈ gw := gw_p (i := 42) (by decide +kernel) (by decide +kernel)
theorem mG136 : Cond.initialized (mY 136).cls ∈ gw := gw_t (i := 10) (by decide +kernel) (by decide +kernel)
theorem mI137 : Cond.instanceMethod (mY 137) ∈ gw := gw_t (i := 1109) (by decide +kernel) (by decide +kernel)
theorem mS137 : Cond.selects (mY 137).cls (mY 137) (mY 137) ∈ gw := gw_p (i := 43) (by decide +kernel) (by decide +kernel)
theorem mG137 : Cond.initialized (mY 137).cls ∈ gw := gw_t (i := 10) (by decide +kernel) (by decide +kernel)
theorem mI138 : Cond.instanceMethod (mY 138) ∈ gw := gw_t (i := 1113) (by decide +kernel) (by decide +kernel)
theorem mS138 : Cond.selects (mY 138).cls (mY 138) (mY 138) ∈ gw := gw_p (i := 44) (by decide +kernel) (by decide +kernel)
theorem mG138 : Cond.initialized (mY 138).cls ∈ gw := gw_t (i := 10) (by decide +kernel) (by decide +kernel)
theorem mI139 : Cond.instanceMethod (mY 139) ∈ gw := gw_t (i := 1117) (by decide +kernel) (by decide +kernel)
theorem mS139 : Cond.selects (mY 139).cls (mY 139) (mY 139) ∈ gw := gw_p (i := 45) (by decide +kernel) (by decide +kernel)
theorem mG139 : Cond.initialized (mY 139).cls ∈ gw := gw_t (i := 10) (by decide +kernel) (by decide +kernel)
theorem mI140 : Cond.instanceMethod (mY 140) ∈ gw := gw_t (i := 1121) (by decide +kernel) (by decide +kernel)
theorem mS140 : Cond.selects (mY 140).cls (mY 140) (mY 140) ∈ gw := gw_p (i := 46) (by decide +kernel) (by decide +kernel)
theorem mG140 : Cond.initialized (mY 140).cls ∈ gw := gw_t (i := 10) (by decide +kernel) (by decide +kernel)
theorem mI141 : Cond.instanceMethod (mY 141) ∈ gw := gw_t (i := 1125) (by decide +kernel) (by decide +kernel)
theorem mS141 : Cond.selects (mY 141).cls (mY 141) (mY 141) ∈ gw := gw_p (i := 47) (by decide +kernel) (by decide +kernel)
theorem mG141 : Cond.initialized (mY 141).cls ∈ gw := gw_t (i := 10) (by decide +kernel) (by decide +kernel)
theorem mT142 : Cond.static (mY 142) ∈ gw := gw_t (i := 1128) (by decide +kernel) (by decide +kernel)
theorem mG142 : Cond.initialized (mY 142).cls ∈ gw := gw_t (i := 10) (by decide +kernel) (by decide +kernel)
theorem mI143 : Cond.instanceMethod (mY 143) ∈ gw := gw_t (i := 1132) (by decide +kernel) (by decide +kernel)
theorem mS143 : Cond.selects (mY 143).cls (mY 143) (mY 143) ∈ gw := gw_p (i := 48) (by decide +kernel) (by decide +kernel)
theorem mG143 : Cond.initialized (mY 143).cls ∈ gw := gw_t (i := 10) (by decide +kernel) (by decide +kernel)
theorem mI144 : Cond.instanceMethod (mY 144) ∈ gw := gw_t (i := 1136) (by decide +kernel) (by decide +kernel)
theorem mS144 : Cond.selects (mY 144).cls (mY 144) (mY 144) ∈ gw := gw_p (i := 49) (by decide +kernel) (by decide +kernel)
theorem mG144 : Cond.initialized (mY 144).cls ∈ gw := gw_t (i := 10) (by decide +kernel) (by decide +kernel)
theorem mI145 : Cond.instanceMethod (mY 145) ∈ gw := gw_t (i := 1140) (by decide +kernel) (by decide +kernel)
theorem mS145 : Cond.selects (mY 145).cls (mY 145) (mY 145) ∈ gw := gw_p (i := 50) (by decide +kernel) (by decide +kernel)
theorem mG145 : Cond.initialized (mY 145).cls ∈ gw := gw_t (i := 10) (by decide +kernel) (by decide +kernel)
theorem mI146 : Cond.instanceMethod (mY 146) ∈ gw := gw_t (i := 1144) (by decide +kernel) (by decide +kernel)
theorem mS146 : Cond.selects (mY 146).cls (mY 146) (mY 146) ∈ gw := gw_p (i := 51) (by decide +kernel) (by decide +kernel)
theorem mG146 : Cond.initialized (mY 146).cls ∈ gw := gw_t (i := 10) (by decide +kernel) (by decide +kernel)
theorem mI147 : Cond.instanceMethod (mY 147) ∈ gw := gw_t (i := 1148) (by decide +kernel) (by decide +kernel)
theorem mS147 : Cond.selects (mY 147).cls (mY 147) (mY 147) ∈ gw := gw_p (i := 52) (by decide +kernel) (by decide +kernel)
theorem mG147 : Cond.initialized (mY 147).cls ∈ gw := gw_t (i := 10) (by decide +kernel) (by decide +kernel)
theorem mI148 : Cond.instanceMethod (mY 148) ∈ gw := gw_t (i := 1152) (by decide +kernel) (by decide +kernel)
theorem mS148 : Cond.selects (mY 148).cls (mY 148) (mY 148) ∈ gw := gw_p (i := 53) (by decide +kernel) (by decide +kernel)
theorem mG148 : Cond.initialized (mY 148).cls ∈ gw := gw_t (i := 10) (by decide +kernel) (by decide +kernel)
theorem mI149 : Cond.instanceMethod (mY 149) ∈ gw := gw_t (i := 1156) (by decide +kernel) (by decide +kernel)
theorem mS149 : Cond.selects (mY 149).cls (mY 149) (mY 149) ∈ gw := gw_p (i := 54) (by decide +kernel) (by decide +kernel)
theorem mG149 : Cond.initialized (mY 149).cls ∈ gw := gw_t (i := 10) (by decide +kernel) (by decide +kernel)
theorem mI150 : Cond.instanceMethod (mY 150) ∈ gw := gw_t (i := 1160) (by decide +kernel) (by decide +kernel)
theorem mS150 : Cond.selects (mY 150).cls (mY 150) (mY 150) ∈ gw := gw_p (i := 55) (by decide +kernel) (by decide +kernel)
theorem mG150 : Cond.initialized (mY 150).cls ∈ gw := gw_t (i := 10) (by decide +kernel) (by decide +kernel)
theorem mT151 : Cond.static (mY 151) ∈ gw := gw_t (i := 1163) (by decide +kernel) (by decide +kernel)
theorem mG151 : Cond.initialized (mY 151).cls ∈ gw := gw_t (i := 10) (by decide +kernel) (by decide +kernel)
theorem mI152 : Cond.instanceMethod (mY 152) ∈ gw := gw_t (i := 1167) (by decide +kernel) (by decide +kernel)
theorem mS152 : Cond.selects (mY 152).cls (mY 152) (mY 152) ∈ gw := gw_p (i := 56) (by decide +kernel) (by decide +kernel)
theorem mG152 : Cond.initialized (mY 152).cls ∈ gw := gw_t (i := 10) (by decide +kernel) (by decide +kernel)
theorem mI153 : Cond.instanceMethod (mY 153) ∈ gw := gw_t (i := 1172) (by decide +kernel) (by decide +kernel)
theorem mS153 : Cond.selects (mY 153).cls (mY 153) (mY 153) ∈ gw := gw_p (i := 57) (by decide +kernel) (by decide +kernel)
theorem mG153 : Cond.initialized (mY 153).cls ∈ gw := gw_t (i := 10) (by decide +kernel) (by decide +kernel)
theorem mI154 : Cond.instanceMethod (mY 154) ∈ gw := gw_t (i := 1176) (by decide +kernel) (by decide +kernel)
theorem mS154 : Cond.selects (mY 154).cls (mY 154) (mY 154) ∈ gw := gw_t (i := 1177) (by decide +kernel) (by decide +kernel)
theorem mG154 : Cond.initialized (mY 154).cls ∈ gw := gw_t (i := 10) (by decide +kernel) (by decide +kernel)
theorem mI155 : Cond.instanceMethod (mY 155) ∈ gw := gw_t (i := 1180) (by decide +kernel) (by decide +kernel)
theorem mS155 : Cond.selects (mY 155).cls (mY 155) (mY 155) ∈ gw := gw_t (i := 1181) (by decide +kernel) (by decide +kernel)
theorem mG155 : Cond.initialized (mY 155).cls ∈ gw := gw_t (i := 10) (by decide +kernel) (by decide +kernel)
theorem mI156 : Cond.instanceMethod (mY 156) ∈ gw := gw_t (i := 1184) (by decide +kernel) (by decide +kernel)
theorem mS156 : Cond.selects (mY 156).cls (mY 156) (mY 156) ∈ gw := gw_t (i := 1185) (by decide +kernel) (by decide +kernel)
theorem mG156 : Cond.initialized (mY 156).cls ∈ gw := gw_t (i := 10) (by decide +kernel) (by decide +kernel)
theorem mT157 : Cond.static (mY 157) ∈ gw := gw_t (i := 1188) (by decide +kernel) (by decide +kernel)
theorem mG157 : Cond.initialized (mY 157).cls ∈ gw := gw_t (i := 10) (by decide +kernel) (by decide +kernel)
theorem mI158 : Cond.instanceMethod (mY 158) ∈ gw := gw_t (i := 1191) (by decide +kernel) (by decide +kernel)
theorem mS158 : Cond.selects (mY 158).cls (mY 158) (mY 158) ∈ gw := gw_t (i := 1192) (by decide +kernel) (by decide +kernel)
theorem mG158 : Cond.initialized (mY 158).cls ∈ gw := gw_t (i := 10) (by decide +kernel) (by decide +kernel)
theorem mI159 : Cond.instanceMethod (mY 159) ∈ gw := gw_t (i := 1196) (by decide +kernel) (by decide +kernel)
theorem mS159 : Cond.selects (mY 159).cls (mY 159) (mY 159) ∈ gw := gw_p (i := 58) (by decide +kernel) (by decide +kernel)
theorem mG159 : Cond.initialized (mY 159).cls ∈ gw := gw_t (i := 10) (by decide +kernel) (by decide +kernel)
theorem mI160 : Cond.instanceMethod (mY 160) ∈ gw := gw_t (i := 1200) (by decide +kernel) (by decide +kernel)
theorem mS160 : Cond.selects (mY 160).cls (mY 160) (mY 160) ∈ gw := gw_p (i := 59) (by decide +kernel) (by decide +kernel)
theorem mG160 : Cond.initialized (mY 160).cls ∈ gw := gw_t (i := 10) (by decide +kernel) (by decide +kernel)
theorem mI161 : Cond.instanceMethod (mY 161) ∈ gw := gw_t (i := 1204) (by decide +kernel) (by decide +kernel)
theorem mS161 : Cond.selects (mY 161).cls (mY 161) (mY 161) ∈ gw := gw_p (i := 60) (by decide +kernel) (by decide +kernel)
theorem mG161 : Cond.initialized (mY 161).cls ∈ gw := gw_t (i := 10) (by decide +kernel) (by decide +kernel)
theorem mI162 : Cond.instanceMethod (mY 162) ∈ gw := gw_t (i := 1208) (by decide +kernel) (by decide +kernel)
theorem mS162 : Cond.selects (mY 162).cls (mY 162) (mY 162) ∈ gw := gw_p (i := 61) (by decide +kernel) (by decide +kernel)
theorem mG162 : Cond.initialized (mY 162).cls ∈ gw := gw_t (i := 10) (by decide +kernel) (by decide +kernel)
theorem mI163 : Cond.instanceMethod (mY 163) ∈ gw := gw_t (i := 1212) (by decide +kernel) (by decide +kernel)
theorem mS163 : Cond.selects (mY 163).cls (mY 163) (mY 163) ∈ gw := gw_p (i := 62) (by decide +kernel) (by decide +kernel)
theorem mG163 : Cond.initialized (mY 163).cls ∈ gw := gw_t (i := 10) (by decide +kernel) (by decide +kernel)
theorem mI164 : Cond.instanceMethod (mY 164) ∈ gw := gw_t (i := 1216) (by decide +kernel) (by decide +kernel)
theorem mS164 : Cond.selects (mY 164).cls (mY 164) (mY 164) ∈ gw := gw_p (i := 63) (by decide +kernel) (by decide +kernel)
theorem mG164 : Cond.initialized (mY 164).cls ∈ gw := gw_t (i := 10) (by decide +kernel) (by decide +kernel)
theorem mI165 : Cond.instanceMethod (mY 165) ∈ gw := gw_t (i := 1220) (by decide +kernel) (by decide +kernel)
theorem mS165 : Cond.selects (mY 165).cls (mY 165) (mY 165) ∈ gw := gw_p (i := 64) (by decide +kernel) (by decide +kernel)
theorem mG165 : Cond.initialized (mY 165).cls ∈ gw := gw_t (i := 10) (by decide +kernel) (by decide +kernel)
theorem mI166 : Cond.instanceMethod (mY 166) ∈ gw := gw_t (i := 1224) (by decide +kernel) (by decide +kernel)
theorem mS166 : Cond.selects (mY 166).cls (mY 166) (mY 166) ∈ gw := gw_p (i := 65) (by decide +kernel) (by decide +kernel)
theorem mG166 : Cond.initialized (mY 166).cls ∈ gw := gw_t (i := 10) (by decide +kernel) (by decide +kernel)
theorem mI167 : Cond.instanceMethod (mY 167) ∈ gw := gw_t (i := 1228) (by decide +kernel) (by decide +kernel)
theorem mS167 : Cond.selects (mY 167).cls (mY 167) (mY 167) ∈ gw := gw_p (i := 66) (by decide +kernel) (by decide +kernel)
theorem mG167 : Cond.initialized (mY 167).cls ∈ gw := gw_t (i := 10) (by decide +kernel) (by decide +kernel)
theorem mT168 : Cond.static (mY 168) ∈ gw := gw_t (i := 1232) (by decide +kernel) (by decide +kernel)
theorem mG168 : Cond.initialized (mY 168).cls ∈ gw := gw_t (i := 10) (by decide +kernel) (by decide +kernel)
theorem mI169 : Cond.instanceMethod (mY 169) ∈ gw := gw_t (i := 1236) (by decide +kernel) (by decide +kernel)
theorem mS169 : Cond.selects (mY 169).cls (mY 169) (mY 169) ∈ gw := gw_p (i := 67) (by decide +kernel) (by decide +kernel)
theorem mG169 : Cond.initialized (mY 169).cls ∈ gw := gw_t (i := 10) (by decide +kernel) (by decide +kernel)
theorem mI170 : Cond.instanceMethod (mY 170) ∈ gw := gw_t (i := 1240) (by decide +kernel) (by decide +kernel)
theorem mS170 : Cond.selects (mY 170).cls (mY 170) (mY 170) ∈ gw := gw_p (i := 68) (by decide +kernel) (by decide +kernel)
theorem mG170 : Cond.initialized (mY 170).cls ∈ gw := gw_t (i := 10) (by decide +kernel) (by decide +kernel)
theorem mI171 : Cond.instanceMethod (mY 171) ∈ gw := gw_t (i := 1244) (by decide +kernel) (by decide +kernel)
theorem mS171 : Cond.selects (mY 171).cls (mY 171) (mY 171) ∈ gw := gw_p (i := 69) (by decide +kernel) (by decide +kernel)
theorem mG171 : Cond.initialized (mY 171).cls ∈ gw := gw_t (i := 10) (by decide +kernel) (by decide +kernel)
theorem mI172 : Cond.instanceMethod (mY 172) ∈ gw := gw_t (i := 1248) (by decide +kernel) (by decide +kernel)
theorem mS172 : Cond.selects (mY 172).cls (mY 172) (mY 172) ∈ gw := gw_p (i := 70) (by decide +kernel) (by decide +kernel)
theorem mG172 : Cond.initialized (mY 172).cls ∈ gw := gw_t (i := 10) (by decide +kernel) (by decide +kernel)
theorem mI173 : Cond.instanceMethod (mY 173) ∈ gw := gw_t (i := 1252) (by decide +kernel) (by decide +kernel)
theorem mS173 : Cond.selects (mY 173).cls (mY 173) (mY 173) ∈ gw := gw_p (i := 71) (by decide +kernel) (by decide +kernel)
theorem mG173 : Cond.initialized (mY 173).cls ∈ gw := gw_t (i := 10) (by decide +kernel) (by decide +kernel)
theorem mI174 : Cond.instanceMethod (mY 174) ∈ gw := gw_t (i := 1256) (by decide +kernel) (by decide +kernel)
theorem mS174 : Cond.selects (mY 174).cls (mY 174) (mY 174) ∈ gw := gw_p (i := 72) (by decide +kernel) (by decide +kernel)
theorem mG174 : Cond.initialized (mY 174).cls ∈ gw := gw_t (i := 10) (by decide +kernel) (by decide +kernel)
theorem mI175 : Cond.instanceMethod (mY 175) ∈ gw := gw_t (i := 1260) (by decide +kernel) (by decide +kernel)
theorem mS175 : Cond.selects (mY 175).cls (mY 175) (mY 175) ∈ gw := gw_p (i := 73) (by decide +kernel) (by decide +kernel)
theorem mG175 : Cond.initialized (mY 175).cls ∈ gw := gw_t (i := 10) (by decide +kernel) (by decide +kernel)
theorem mI176 : Cond.instanceMethod (mY 176) ∈ gw := gw_t (i := 1264) (by decide +kernel) (by decide +kernel)
theorem mS176 : Cond.selects (mY 176).cls (mY 176) (mY 176) ∈ gw := gw_p (i := 74) (by decide +kernel) (by decide +kernel)
theorem mG176 : Cond.initialized (mY 176).cls ∈ gw := gw_t (i := 10) (by decide +kernel) (by decide +kernel)
theorem mI177 : Cond.instanceMethod (mY 177) ∈ gw := gw_t (i := 1267) (by decide +kernel) (by decide +kernel)
theorem mS177 : Cond.selects (mY 177).cls (mY 177) (mY 177) ∈ gw := gw_t (i := 1268) (by decide +kernel) (by decide +kernel)
theorem mG177 : Cond.initialized (mY 177).cls ∈ gw := gw_t (i := 10) (by decide +kernel) (by decide +kernel)
theorem mI178 : Cond.instanceMethod (mY 178) ∈ gw := gw_t (i := 1273) (by decide +kernel) (by decide +kernel)
theorem mS178 : Cond.selects (mY 178).cls (mY 178) (mY 178) ∈ gw := gw_t (i := 1274) (by decide +kernel) (by decide +kernel)
theorem mG178 : Cond.initialized (mY 178).cls ∈ gw := gw_t (i := 10) (by decide +kernel) (by decide +kernel)
theorem mI179 : Cond.instanceMethod (mY 179) ∈ gw := gw_t (i := 1277) (by decide +kernel) (by decide +kernel)
theorem mS179 : Cond.selects (mY 179).cls (mY 179) (mY 179) ∈ gw := gw_t (i := 1278) (by decide +kernel) (by decide +kernel)
theorem mG179 : Cond.initialized (mY 179).cls ∈ gw := gw_t (i := 10) (by decide +kernel) (by decide +kernel)
theorem mT180 : Cond.static (mY 180) ∈ gw := gw_t (i := 1281) (by decide +kernel) (by decide +kernel)
theorem mG180 : Cond.initialized (mY 180).cls ∈ gw := gw_t (i := 10) (by decide +kernel) (by decide +kernel)
theorem mI181 : Cond.instanceMethod (mY 181) ∈ gw := gw_t (i := 1284) (by decide +kernel) (by decide +kernel)
theorem mS181 : Cond.selects (mY 181).cls (mY 181) (mY 181) ∈ gw := gw_t (i := 1285) (by decide +kernel) (by decide +kernel)
theorem mG181 : Cond.initialized (mY 181).cls ∈ gw := gw_t (i := 10) (by decide +kernel) (by decide +kernel)
theorem mI182 : Cond.instanceMethod (mY 182) ∈ gw := gw_t (i := 1288) (by decide +kernel) (by decide +kernel)
theorem mS182 : Cond.selects (mY 182).cls (mY 182) (mY 182) ∈ gw := gw_t (i := 1289) (by decide +kernel) (by decide +kernel)
theorem mG182 : Cond.initialized (mY 182).cls ∈ gw := gw_t (i := 10) (by decide +kernel) (by decide +kernel)
theorem mI183 : Cond.instanceMethod (mY 183) ∈ gw := gw_t (i := 1292) (by decide +kernel) (by decide +kernel)
theorem mS183 : Cond.selects (mY 183).cls (mY 183) (mY 183) ∈ gw := gw_t (i := 1293) (by decide +kernel) (by decide +kernel)
theorem mG183 : Cond.initialized (mY 183).cls ∈ gw := gw_t (i := 10) (by decide +kernel) (by decide +kernel)
theorem mI184 : Cond.instanceMethod (mY 184) ∈ gw := gw_t (i := 1296) (by decide +kernel) (by decide +kernel)
theorem mS184 : Cond.selects (mY 184).cls (mY 184) (mY 184) ∈ gw := gw_t (i := 1297) (by decide +kernel) (by decide +kernel)
theorem mG184 : Cond.initialized (mY 184).cls ∈ gw := gw_t (i := 10) (by decide +kernel) (by decide +kernel)
theorem mI185 : Cond.instanceMethod (mY 185) ∈ gw := gw_t (i := 1300) (by decide +kernel) (by decide +kernel)
theorem mS185 : Cond.selects (mY 185).cls (mY 185) (mY 185) ∈ gw := gw_t (i := 1301) (by decide +kernel) (by decide +kernel)
theorem mG185 : Cond.initialized (mY 185).cls ∈ gw := gw_t (i := 10) (by decide +kernel) (by decide +kernel)
theorem mI186 : Cond.instanceMethod (mY 186) ∈ gw := gw_t (i := 1304) (by decide +kernel) (by decide +kernel)
theorem mS186 : Cond.selects (mY 186).cls (mY 186) (mY 186) ∈ gw := gw_t (i := 1305) (by decide +kernel) (by decide +kernel)
theorem mG186 : Cond.initialized (mY 186).cls ∈ gw := gw_t (i := 10) (by decide +kernel) (by decide +kernel)
theorem mI187 : Cond.instanceMethod (mY 187) ∈ gw := gw_t (i := 1309) (by decide +kernel) (by decide +kernel)
theorem mS187 : Cond.selects (mY 187).cls (mY 187) (mY 187) ∈ gw := gw_p (i := 75) (by decide +kernel) (by decide +kernel)
theorem mG187 : Cond.initialized (mY 187).cls ∈ gw := gw_t (i := 10) (by decide +kernel) (by decide +kernel)
theorem mI188 : Cond.instanceMethod (mY 188) ∈ gw := gw_t (i := 1312) (by decide +kernel) (by decide +kernel)
theorem mS188 : Cond.selects (mY 188).cls (mY 188) (mY 188) ∈ gw := gw_t (i := 1313) (by decide +kernel) (by decide +kernel)
theorem mG188 : Cond.initialized (mY 188).cls ∈ gw := gw_t (i := 10) (by decide +kernel) (by decide +kernel)
theorem mI189 : Cond.instanceMethod (mY 189) ∈ gw := gw_t (i := 1316) (by decide +kernel) (by decide +kernel)
theorem mS189 : Cond.selects (mY 189).cls (mY 189) (mY 189) ∈ gw := gw_t (i := 1317) (by decide +kernel) (by decide +kernel)
theorem mG189 : Cond.initialized (mY 189).cls ∈ gw := gw_t (i := 10) (by decide +kernel) (by decide +kernel)
theorem mI190 : Cond.instanceMethod (mY 190) ∈ gw := gw_t (i := 1321) (by decide +kernel) (by decide +kernel)
theorem mS190 : Cond.selects (mY 190).cls (mY 190) (mY 190) ∈ gw := gw_p (i := 76) (by decide +kernel) (by decide +kernel)
theorem mG190 : Cond.initialized (mY 190).cls ∈ gw := gw_t (i := 10) (by decide +kernel) (by decide +kernel)
theorem mI191 : Cond.instanceMethod (mY 191) ∈ gw := gw_t (i := 1325) (by decide +kernel) (by decide +kernel)
theorem mS191 : Cond.selects (mY 191).cls (mY 191) (mY 191) ∈ gw := gw_p (i := 77) (by decide +kernel) (by decide +kernel)
theorem mG191 : Cond.initialized (mY 191).cls ∈ gw := gw_t (i := 10) (by decide +kernel) (by decide +kernel)
theorem mI192 : Cond.instanceMethod (mY 192) ∈ gw := gw_t (i := 1328) (by decide +kernel) (by decide +kernel)
theorem mS192 : Cond.selects (mY 192).cls (mY 192) (mY 192) ∈ gw := gw_t (i := 1329) (by decide +kernel) (by decide +kernel)
theorem mG192 : Cond.initialized (mY 192).cls ∈ gw := gw_t (i := 10) (by decide +kernel) (by decide +kernel)
theorem mI193 : Cond.instanceMethod (mY 193) ∈ gw := gw_t (i := 1332) (by decide +kernel) (by decide +kernel)
theorem mS193 : Cond.selects (mY 193).cls (mY 193) (mY 193) ∈ gw := gw_t (i := 1333) (by decide +kernel) (by decide +kernel)
theorem mG193 : Cond.initialized (mY 193).cls ∈ gw := gw_t (i := 10) (by decide +kernel) (by decide +kernel)
theorem mI194 : Cond.instanceMethod (mY 194) ∈ gw := gw_t (i := 1336) (by decide +kernel) (by decide +kernel)
theorem mS194 : Cond.selects (mY 194).cls (mY 194) (mY 194) ∈ gw := gw_t (i := 1337) (by decide +kernel) (by decide +kernel)
theorem mG194 : Cond.initialized (mY 194).cls ∈ gw := gw_t (i := 10) (by decide +kernel) (by decide +kernel)
theorem mI195 : Cond.instanceMethod (mY 195) ∈ gw := gw_t (i := 1340) (by decide +kernel) (by decide +kernel)
theorem mS195 : Cond.selects (mY 195).cls (mY 195) (mY 195) ∈ gw := gw_t (i := 1341) (by decide +kernel) (by decide +kernel)
theorem mG195 : Cond.initialized (mY 195).cls ∈ gw := gw_t (i := 10) (by decide +kernel) (by decide +kernel)
theorem mI196 : Cond.instanceMethod (mY 196) ∈ gw := gw_t (i := 1344) (by decide +kernel) (by decide +kernel)
theorem mS196 : Cond.selects (mY 196).cls (mY 196) (mY 196) ∈ gw := gw_t (i := 1345) (by decide +kernel) (by decide +kernel)
theorem mG196 : Cond.initialized (mY 196).cls ∈ gw := gw_t (i := 10) (by decide +kernel) (by decide +kernel)
theorem ml10_9 : Cond.methodLink "MaskedThrowsLaw" 9 (mY 0) ∈ gw := gw_t (i := 18) (by decide +kernel) (by decide +kernel)
theorem ml8_3 : Cond.methodLink "MaskedThrows" 3 (mY 1) ∈ gw := gw_t (i := 21) (by decide +kernel) (by decide +kernel)
theorem ml3_3 : Cond.methodLink "MaskedThrows$Parser" 3 (mY 1) ∈ gw := gw_t (i := 29) (by decide +kernel) (by decide +kernel)
theorem ml6_3 : Cond.methodLink "MaskedThrows$Tokens" 3 (mY 1) ∈ gw := gw_t (i := 35) (by decide +kernel) (by decide +kernel)
theorem ml4_3 : Cond.methodLink "MaskedThrows$Program" 3 (mY 1) ∈ gw := gw_t (i := 69) (by decide +kernel) (by decide +kernel)
theorem ml8_33 : Cond.methodLink "MaskedThrows" 33 (mY 5) ∈ gw := gw_t (i := 137) (by decide +kernel) (by decide +kernel)
theorem ml7_3 : Cond.methodLink "MaskedThrows$World" 3 (mY 1) ∈ gw := gw_t (i := 140) (by decide +kernel) (by decide +kernel)
theorem ml7_21 : Cond.methodLink "MaskedThrows$World" 21 (mY 6) ∈ gw := gw_t (i := 143) (by decide +kernel) (by decide +kernel)
theorem ml1_1 : Cond.methodLink "MaskedThrows$Chronicle" 1 (mY 1) ∈ gw := gw_t (i := 146) (by decide +kernel) (by decide +kernel)
theorem ml7_29 : Cond.methodLink "MaskedThrows$World" 29 (mY 7) ∈ gw := gw_t (i := 181) (by decide +kernel) (by decide +kernel)
theorem ml2_3 : Cond.methodLink "MaskedThrows$Fiber" 3 (mY 1) ∈ gw := gw_t (i := 184) (by decide +kernel) (by decide +kernel)
theorem ml5_3 : Cond.methodLink "MaskedThrows$Row" 3 (mY 1) ∈ gw := gw_t (i := 190) (by decide +kernel) (by decide +kernel)
theorem ml0_3 : Cond.methodLink "MaskedThrows$Body" 3 (mY 1) ∈ gw := gw_t (i := 218) (by decide +kernel) (by decide +kernel)
theorem ml10_13 : Cond.methodLink "MaskedThrowsLaw" 13 (mY 10) ∈ gw := gw_t (i := 362) (by decide +kernel) (by decide +kernel)
theorem ml8_41 : Cond.methodLink "MaskedThrows" 41 (mY 11) ∈ gw := gw_t (i := 366) (by decide +kernel) (by decide +kernel)
theorem ml10_18 : Cond.methodLink "MaskedThrowsLaw" 18 (mY 12) ∈ gw := gw_t (i := 370) (by decide +kernel) (by decide +kernel)
theorem ml10_23 : Cond.methodLink "MaskedThrowsLaw" 23 (mY 13) ∈ gw := gw_t (i := 374) (by decide +kernel) (by decide +kernel)
theorem ml8_48 : Cond.methodLink "MaskedThrows" 48 (mY 14) ∈ gw := gw_t (i := 378) (by decide +kernel) (by decide +kernel)
theorem ml3_18 : Cond.methodLink "MaskedThrows$Parser" 18 (mY 15) ∈ gw := gw_t (i := 382) (by decide +kernel) (by decide +kernel)
theorem ml6_25 : Cond.methodLink "MaskedThrows$Tokens" 25 (mY 16) ∈ gw := gw_t (i := 386) (by decide +kernel) (by decide +kernel)
theorem ml6_29 : Cond.methodLink "MaskedThrows$Tokens" 29 (mY 17) ∈ gw := gw_t (i := 389) (by decide +kernel) (by decide +kernel)
theorem ml6_46 : Cond.methodLink "MaskedThrows$Tokens" 46 (mY 18) ∈ gw := gw_t (i := 393) (by decide +kernel) (by decide +kernel)
theorem ml6_50 : Cond.methodLink "MaskedThrows$Tokens" 50 (mY 19) ∈ gw := gw_t (i := 396) (by decide +kernel) (by decide +kernel)
theorem ml6_56 : Cond.methodLink "MaskedThrows$Tokens" 56 (mY 20) ∈ gw := gw_t (i := 400) (by decide +kernel) (by decide +kernel)
theorem mlS_492 : Cond.methodLink "java/lang/String" 492 (mY 21) ∈ gw := gw_t (i := 404) (by decide +kernel) (by decide +kernel)
theorem mlS_495 : Cond.methodLink "java/lang/String" 495 (mY 22) ∈ gw := gw_t (i := 410) (by decide +kernel) (by decide +kernel)
theorem mlL_9 : Cond.methodLink "java/lang/StringLatin1" 9 (mY 23) ∈ gw := gw_t (i := 413) (by decide +kernel) (by decide +kernel)
theorem mlS_1059 : Cond.methodLink "java/lang/String" 1059 (mY 24) ∈ gw := gw_t (i := 418) (by decide +kernel) (by decide +kernel)
theorem mlS_498 : Cond.methodLink "java/lang/String" 498 (mY 25) ∈ gw := gw_t (i := 421) (by decide +kernel) (by decide +kernel)
theorem mlU_67 : Cond.methodLink "java/lang/StringUTF16" 67 (mY 26) ∈ gw := gw_t (i := 424) (by decide +kernel) (by decide +kernel)
theorem mlU_48 : Cond.methodLink "java/lang/StringUTF16" 48 (mY 27) ∈ gw := gw_t (i := 427) (by decide +kernel) (by decide +kernel)
theorem mlU_414 : Cond.methodLink "java/lang/StringUTF16" 414 (mY 23) ∈ gw := gw_t (i := 430) (by decide +kernel) (by decide +kernel)
theorem mlU_71 : Cond.methodLink "java/lang/StringUTF16" 71 (mY 28) ∈ gw := gw_t (i := 431) (by decide +kernel) (by decide +kernel)
theorem ml6_42 : Cond.methodLink "MaskedThrows$Tokens" 42 (mY 29) ∈ gw := gw_t (i := 440) (by decide +kernel) (by decide +kernel)
theorem ml6_33 : Cond.methodLink "MaskedThrows$Tokens" 33 (mY 30) ∈ gw := gw_t (i := 444) (by decide +kernel) (by decide +kernel)
theorem ml6_36 : Cond.methodLink "MaskedThrows$Tokens" 36 (mY 31) ∈ gw := gw_t (i := 447) (by decide +kernel) (by decide +kernel)
theorem ml6_39 : Cond.methodLink "MaskedThrows$Tokens" 39 (mY 32) ∈ gw := gw_t (i := 451) (by decide +kernel) (by decide +kernel)
theorem ml6_64 : Cond.methodLink "MaskedThrows$Tokens" 64 (mY 33) ∈ gw := gw_t (i := 455) (by decide +kernel) (by decide +kernel)
theorem mlS_335 : Cond.methodLink "java/lang/String" 335 (mY 34) ∈ gw := gw_t (i := 459) (by decide +kernel) (by decide +kernel)
theorem ml3_22 : Cond.methodLink "MaskedThrows$Parser" 22 (mY 35) ∈ gw := gw_t (i := 463) (by decide +kernel) (by decide +kernel)
theorem ml3_35 : Cond.methodLink "MaskedThrows$Parser" 35 (mY 36) ∈ gw := gw_t (i := 467) (by decide +kernel) (by decide +kernel)
theorem ml3_52 : Cond.methodLink "MaskedThrows$Parser" 52 (mY 37) ∈ gw := gw_t (i := 471) (by decide +kernel) (by decide +kernel)
theorem ml3_59 : Cond.methodLink "MaskedThrows$Parser" 59 (mY 38) ∈ gw := gw_t (i := 475) (by decide +kernel) (by decide +kernel)
theorem ml3_62 : Cond.methodLink "MaskedThrows$Parser" 62 (mY 39) ∈ gw := gw_t (i := 478) (by decide +kernel) (by decide +kernel)
theorem ml3_66 : Cond.methodLink "MaskedThrows$Parser" 66 (mY 40) ∈ gw := gw_t (i := 482) (by decide +kernel) (by decide +kernel)
theorem ml3_69 : Cond.methodLink "MaskedThrows$Parser" 69 (mY 41) ∈ gw := gw_t (i := 486) (by decide +kernel) (by decide +kernel)
theorem ml3_72 : Cond.methodLink "MaskedThrows$Parser" 72 (mY 42) ∈ gw := gw_t (i := 490) (by decide +kernel) (by decide +kernel)
theorem ml3_113 : Cond.methodLink "MaskedThrows$Parser" 113 (mY 43) ∈ gw := gw_t (i := 494) (by decide +kernel) (by decide +kernel)
theorem ml3_119 : Cond.methodLink "MaskedThrows$Parser" 119 (mY 44) ∈ gw := gw_t (i := 498) (by decide +kernel) (by decide +kernel)
theorem ml3_125 : Cond.methodLink "MaskedThrows$Parser" 125 (mY 45) ∈ gw := gw_t (i := 502) (by decide +kernel) (by decide +kernel)
theorem ml3_128 : Cond.methodLink "MaskedThrows$Parser" 128 (mY 46) ∈ gw := gw_t (i := 506) (by decide +kernel) (by decide +kernel)
theorem ml3_122 : Cond.methodLink "MaskedThrows$Parser" 122 (mY 47) ∈ gw := gw_t (i := 510) (by decide +kernel) (by decide +kernel)
theorem ml3_75 : Cond.methodLink "MaskedThrows$Parser" 75 (mY 48) ∈ gw := gw_t (i := 514) (by decide +kernel) (by decide +kernel)
theorem ml3_78 : Cond.methodLink "MaskedThrows$Parser" 78 (mY 49) ∈ gw := gw_t (i := 518) (by decide +kernel) (by decide +kernel)
theorem ml3_101 : Cond.methodLink "MaskedThrows$Parser" 101 (mY 50) ∈ gw := gw_t (i := 522) (by decide +kernel) (by decide +kernel)
theorem ml3_81 : Cond.methodLink "MaskedThrows$Parser" 81 (mY 51) ∈ gw := gw_t (i := 525) (by decide +kernel) (by decide +kernel)
theorem ml3_85 : Cond.methodLink "MaskedThrows$Parser" 85 (mY 52) ∈ gw := gw_t (i := 529) (by decide +kernel) (by decide +kernel)
theorem ml10_28 : Cond.methodLink "MaskedThrowsLaw" 28 (mY 53) ∈ gw := gw_t (i := 535) (by decide +kernel) (by decide +kernel)
theorem ml10_32 : Cond.methodLink "MaskedThrowsLaw" 32 (mY 54) ∈ gw := gw_t (i := 539) (by decide +kernel) (by decide +kernel)
theorem ml8_52 : Cond.methodLink "MaskedThrows" 52 (mY 55) ∈ gw := gw_t (i := 543) (by decide +kernel) (by decide +kernel)
theorem ml10_37 : Cond.methodLink "MaskedThrowsLaw" 37 (mY 56) ∈ gw := gw_t (i := 547) (by decide +kernel) (by decide +kernel)
theorem ml8_65 : Cond.methodLink "MaskedThrows" 65 (mY 57) ∈ gw := gw_t (i := 551) (by decide +kernel) (by decide +kernel)
theorem ml8_68 : Cond.methodLink "MaskedThrows" 68 (mY 58) ∈ gw := gw_t (i := 554) (by decide +kernel) (by decide +kernel)
theorem ml8_75 : Cond.methodLink "MaskedThrows" 75 (mY 59) ∈ gw := gw_t (i := 558) (by decide +kernel) (by decide +kernel)
theorem ml2_69 : Cond.methodLink "MaskedThrows$Fiber" 69 (mY 60) ∈ gw := gw_t (i := 562) (by decide +kernel) (by decide +kernel)
theorem ml2_54 : Cond.methodLink "MaskedThrows$Fiber" 54 (mY 61) ∈ gw := gw_t (i := 566) (by decide +kernel) (by decide +kernel)
theorem ml2_78 : Cond.methodLink "MaskedThrows$Fiber" 78 (mY 62) ∈ gw := gw_t (i := 570) (by decide +kernel) (by decide +kernel)
theorem ml0_18 : Cond.methodLink "MaskedThrows$Body" 18 (mY 63) ∈ gw := gw_t (i := 574) (by decide +kernel) (by decide +kernel)
theorem ml10_41 : Cond.methodLink "MaskedThrowsLaw" 41 (mY 64) ∈ gw := gw_t (i := 578) (by decide +kernel) (by decide +kernel)
theorem ml8_81 : Cond.methodLink "MaskedThrows" 81 (mY 65) ∈ gw := gw_t (i := 582) (by decide +kernel) (by decide +kernel)
theorem ml7_54 : Cond.methodLink "MaskedThrows$World" 54 (mY 66) ∈ gw := gw_t (i := 586) (by decide +kernel) (by decide +kernel)
theorem ml2_149 : Cond.methodLink "MaskedThrows$Fiber" 149 (mY 67) ∈ gw := gw_t (i := 590) (by decide +kernel) (by decide +kernel)
theorem ml7_57 : Cond.methodLink "MaskedThrows$World" 57 (mY 68) ∈ gw := gw_t (i := 594) (by decide +kernel) (by decide +kernel)
theorem ml7_68 : Cond.methodLink "MaskedThrows$World" 68 (mY 69) ∈ gw := gw_t (i := 598) (by decide +kernel) (by decide +kernel)
theorem ml2_101 : Cond.methodLink "MaskedThrows$Fiber" 101 (mY 70) ∈ gw := gw_t (i := 602) (by decide +kernel) (by decide +kernel)
theorem ml2_155 : Cond.methodLink "MaskedThrows$Fiber" 155 (mY 71) ∈ gw := gw_t (i := 606) (by decide +kernel) (by decide +kernel)
theorem ml2_105 : Cond.methodLink "MaskedThrows$Fiber" 105 (mY 72) ∈ gw := gw_t (i := 610) (by decide +kernel) (by decide +kernel)
theorem ml2_127 : Cond.methodLink "MaskedThrows$Fiber" 127 (mY 63) ∈ gw := gw_t (i := 614) (by decide +kernel) (by decide +kernel)
theorem ml2_82 : Cond.methodLink "MaskedThrows$Fiber" 82 (mY 73) ∈ gw := gw_t (i := 615) (by decide +kernel) (by decide +kernel)
theorem ml2_159 : Cond.methodLink "MaskedThrows$Fiber" 159 (mY 74) ∈ gw := gw_t (i := 619) (by decide +kernel) (by decide +kernel)
theorem ml2_174 : Cond.methodLink "MaskedThrows$Fiber" 174 (mY 50) ∈ gw := gw_t (i := 623) (by decide +kernel) (by decide +kernel)
theorem ml2_171 : Cond.methodLink "MaskedThrows$Fiber" 171 (mY 75) ∈ gw := gw_t (i := 624) (by decide +kernel) (by decide +kernel)
theorem ml2_131 : Cond.methodLink "MaskedThrows$Fiber" 131 (mY 76) ∈ gw := gw_t (i := 628) (by decide +kernel) (by decide +kernel)
theorem ml2_138 : Cond.methodLink "MaskedThrows$Fiber" 138 (mY 77) ∈ gw := gw_t (i := 632) (by decide +kernel) (by decide +kernel)
theorem ml2_142 : Cond.methodLink "MaskedThrows$Fiber" 142 (mY 78) ∈ gw := gw_t (i := 636) (by decide +kernel) (by decide +kernel)
theorem ml2_109 : Cond.methodLink "MaskedThrows$Fiber" 109 (mY 79) ∈ gw := gw_t (i := 640) (by decide +kernel) (by decide +kernel)
theorem ml7_82 : Cond.methodLink "MaskedThrows$World" 82 (mY 80) ∈ gw := gw_t (i := 644) (by decide +kernel) (by decide +kernel)
theorem ml7_95 : Cond.methodLink "MaskedThrows$World" 95 (mY 81) ∈ gw := gw_t (i := 648) (by decide +kernel) (by decide +kernel)
theorem ml7_126 : Cond.methodLink "MaskedThrows$World" 126 (mY 82) ∈ gw := gw_t (i := 652) (by decide +kernel) (by decide +kernel)
theorem ml7_113 : Cond.methodLink "MaskedThrows$World" 113 (mY 78) ∈ gw := gw_t (i := 656) (by decide +kernel) (by decide +kernel)
theorem ml7_119 : Cond.methodLink "MaskedThrows$World" 119 (mY 73) ∈ gw := gw_t (i := 657) (by decide +kernel) (by decide +kernel)
theorem ml7_85 : Cond.methodLink "MaskedThrows$World" 85 (mY 70) ∈ gw := gw_t (i := 658) (by decide +kernel) (by decide +kernel)
theorem ml7_88 : Cond.methodLink "MaskedThrows$World" 88 (mY 83) ∈ gw := gw_t (i := 659) (by decide +kernel) (by decide +kernel)
theorem ml7_91 : Cond.methodLink "MaskedThrows$World" 91 (mY 84) ∈ gw := gw_t (i := 663) (by decide +kernel) (by decide +kernel)
theorem ml7_143 : Cond.methodLink "MaskedThrows$World" 143 (mY 85) ∈ gw := gw_t (i := 667) (by decide +kernel) (by decide +kernel)
theorem ml4_56 : Cond.methodLink "MaskedThrows$Program" 56 (mY 86) ∈ gw := gw_t (i := 671) (by decide +kernel) (by decide +kernel)
theorem ml7_147 : Cond.methodLink "MaskedThrows$World" 147 (mY 79) ∈ gw := gw_t (i := 674) (by decide +kernel) (by decide +kernel)
theorem ml7_150 : Cond.methodLink "MaskedThrows$World" 150 (mY 87) ∈ gw := gw_t (i := 675) (by decide +kernel) (by decide +kernel)
theorem ml7_154 : Cond.methodLink "MaskedThrows$World" 154 (mY 88) ∈ gw := gw_t (i := 679) (by decide +kernel) (by decide +kernel)
theorem ml7_171 : Cond.methodLink "MaskedThrows$World" 171 (mY 89) ∈ gw := gw_t (i := 683) (by decide +kernel) (by decide +kernel)
theorem ml7_157 : Cond.methodLink "MaskedThrows$World" 157 (mY 90) ∈ gw := gw_t (i := 687) (by decide +kernel) (by decide +kernel)
theorem ml7_160 : Cond.methodLink "MaskedThrows$World" 160 (mY 91) ∈ gw := gw_t (i := 691) (by decide +kernel) (by decide +kernel)
theorem ml7_163 : Cond.methodLink "MaskedThrows$World" 163 (mY 92) ∈ gw := gw_t (i := 694) (by decide +kernel) (by decide +kernel)
theorem ml7_178 : Cond.methodLink "MaskedThrows$World" 178 (mY 67) ∈ gw := gw_t (i := 698) (by decide +kernel) (by decide +kernel)
theorem ml7_166 : Cond.methodLink "MaskedThrows$World" 166 (mY 50) ∈ gw := gw_t (i := 699) (by decide +kernel) (by decide +kernel)
theorem ml7_61 : Cond.methodLink "MaskedThrows$World" 61 (mY 93) ∈ gw := gw_t (i := 700) (by decide +kernel) (by decide +kernel)
theorem ml2_179 : Cond.methodLink "MaskedThrows$Fiber" 179 (mY 94) ∈ gw := gw_t (i := 704) (by decide +kernel) (by decide +kernel)
theorem ml2_189 : Cond.methodLink "MaskedThrows$Fiber" 189 (mY 87) ∈ gw := gw_t (i := 708) (by decide +kernel) (by decide +kernel)
theorem ml2_183 : Cond.methodLink "MaskedThrows$Fiber" 183 (mY 95) ∈ gw := gw_t (i := 709) (by decide +kernel) (by decide +kernel)
theorem ml10_47 : Cond.methodLink "MaskedThrowsLaw" 47 (mY 96) ∈ gw := gw_t (i := 713) (by decide +kernel) (by decide +kernel)
theorem ml10_52 : Cond.methodLink "MaskedThrowsLaw" 52 (mY 97) ∈ gw := gw_t (i := 719) (by decide +kernel) (by decide +kernel)
theorem ml8_93 : Cond.methodLink "MaskedThrows" 93 (mY 98) ∈ gw := gw_t (i := 723) (by decide +kernel) (by decide +kernel)
theorem ml8_99 : Cond.methodLink "MaskedThrows" 99 (mY 67) ∈ gw := gw_t (i := 727) (by decide +kernel) (by decide +kernel)
theorem ml10_57 : Cond.methodLink "MaskedThrowsLaw" 57 (mY 99) ∈ gw := gw_t (i := 728) (by decide +kernel) (by decide +kernel)
theorem ml8_106 : Cond.methodLink "MaskedThrows" 106 (mY 100) ∈ gw := gw_t (i := 732) (by decide +kernel) (by decide +kernel)
theorem ml10_61 : Cond.methodLink "MaskedThrowsLaw" 61 (mY 101) ∈ gw := gw_t (i := 735) (by decide +kernel) (by decide +kernel)
theorem ml10_65 : Cond.methodLink "MaskedThrowsLaw" 65 (mY 102) ∈ gw := gw_t (i := 739) (by decide +kernel) (by decide +kernel)
theorem ml10_70 : Cond.methodLink "MaskedThrowsLaw" 70 (mY 103) ∈ gw := gw_t (i := 743) (by decide +kernel) (by decide +kernel)
theorem ml8_132 : Cond.methodLink "MaskedThrows" 132 (mY 104) ∈ gw := gw_t (i := 747) (by decide +kernel) (by decide +kernel)
theorem ml10_74 : Cond.methodLink "MaskedThrowsLaw" 74 (mY 105) ∈ gw := gw_t (i := 751) (by decide +kernel) (by decide +kernel)
theorem ml10_78 : Cond.methodLink "MaskedThrowsLaw" 78 (mY 106) ∈ gw := gw_t (i := 755) (by decide +kernel) (by decide +kernel)
theorem ml10_83 : Cond.methodLink "MaskedThrowsLaw" 83 (mY 107) ∈ gw := gw_t (i := 759) (by decide +kernel) (by decide +kernel)
theorem ml8_143 : Cond.methodLink "MaskedThrows" 143 (mY 108) ∈ gw := gw_t (i := 763) (by decide +kernel) (by decide +kernel)
theorem ml10_88 : Cond.methodLink "MaskedThrowsLaw" 88 (mY 109) ∈ gw := gw_t (i := 767) (by decide +kernel) (by decide +kernel)
theorem ml10_92 : Cond.methodLink "MaskedThrowsLaw" 92 (mY 110) ∈ gw := gw_t (i := 771) (by decide +kernel) (by decide +kernel)
theorem ml8_156 : Cond.methodLink "MaskedThrows" 156 (mY 111) ∈ gw := gw_t (i := 775) (by decide +kernel) (by decide +kernel)
theorem ml7_184 : Cond.methodLink "MaskedThrows$World" 184 (mY 112) ∈ gw := gw_t (i := 779) (by decide +kernel) (by decide +kernel)
theorem ml7_188 : Cond.methodLink "MaskedThrows$World" 188 (mY 113) ∈ gw := gw_t (i := 783) (by decide +kernel) (by decide +kernel)
theorem ml2_192 : Cond.methodLink "MaskedThrows$Fiber" 192 (mY 114) ∈ gw := gw_t (i := 787) (by decide +kernel) (by decide +kernel)
theorem ml2_196 : Cond.methodLink "MaskedThrows$Fiber" 196 (mY 115) ∈ gw := gw_t (i := 791) (by decide +kernel) (by decide +kernel)
theorem ml10_96 : Cond.methodLink "MaskedThrowsLaw" 96 (mY 116) ∈ gw := gw_t (i := 795) (by decide +kernel) (by decide +kernel)
theorem ml10_100 : Cond.methodLink "MaskedThrowsLaw" 100 (mY 117) ∈ gw := gw_t (i := 799) (by decide +kernel) (by decide +kernel)
theorem ml10_104 : Cond.methodLink "MaskedThrowsLaw" 104 (mY 118) ∈ gw := gw_t (i := 803) (by decide +kernel) (by decide +kernel)
theorem ml8_169 : Cond.methodLink "MaskedThrows" 169 (mY 119) ∈ gw := gw_t (i := 807) (by decide +kernel) (by decide +kernel)
theorem ml10_108 : Cond.methodLink "MaskedThrowsLaw" 108 (mY 120) ∈ gw := gw_t (i := 811) (by decide +kernel) (by decide +kernel)
theorem ml10_112 : Cond.methodLink "MaskedThrowsLaw" 112 (mY 121) ∈ gw := gw_t (i := 815) (by decide +kernel) (by decide +kernel)
theorem ml8_182 : Cond.methodLink "MaskedThrows" 182 (mY 122) ∈ gw := gw_t (i := 819) (by decide +kernel) (by decide +kernel)
theorem ml7_51 : Cond.methodLink "MaskedThrows$World" 51 (mY 60) ∈ gw := gw_t (i := 823) (by decide +kernel) (by decide +kernel)
theorem ml10_12 : Cond.methodLink "MaskedThrowsLaw" 12 (mY 123) ∈ gw := gw_t (i := 826) (by decide +kernel) (by decide +kernel)
theorem ml9_1 : Cond.methodLink "MaskedThrowsModel" 1 (mY 1) ∈ gw := gw_t (i := 829) (by decide +kernel) (by decide +kernel)
theorem ml10_17 : Cond.methodLink "MaskedThrowsLaw" 17 (mY 124) ∈ gw := gw_t (i := 1038) (by decide +kernel) (by decide +kernel)
theorem ml10_22 : Cond.methodLink "MaskedThrowsLaw" 22 (mY 125) ∈ gw := gw_t (i := 1042) (by decide +kernel) (by decide +kernel)
theorem ml10_27 : Cond.methodLink "MaskedThrowsLaw" 27 (mY 126) ∈ gw := gw_t (i := 1046) (by decide +kernel) (by decide +kernel)
theorem ml9_347 : Cond.methodLink "MaskedThrowsModel" 347 (mY 127) ∈ gw := gw_t (i := 1050) (by decide +kernel) (by decide +kernel)
theorem ml9_262 : Cond.methodLink "MaskedThrowsModel" 262 (mY 128) ∈ gw := gw_t (i := 1054) (by decide +kernel) (by decide +kernel)
theorem ml9_214 : Cond.methodLink "MaskedThrowsModel" 214 (mY 129) ∈ gw := gw_t (i := 1058) (by decide +kernel) (by decide +kernel)
theorem ml9_224 : Cond.methodLink "MaskedThrowsModel" 224 (mY 130) ∈ gw := gw_t (i := 1062) (by decide +kernel) (by decide +kernel)
theorem ml9_231 : Cond.methodLink "MaskedThrowsModel" 231 (mY 131) ∈ gw := gw_t (i := 1065) (by decide +kernel) (by decide +kernel)
theorem ml9_235 : Cond.methodLink "MaskedThrowsModel" 235 (mY 132) ∈ gw := gw_t (i := 1087) (by decide +kernel) (by decide +kernel)
theorem ml9_249 : Cond.methodLink "MaskedThrowsModel" 249 (mY 133) ∈ gw := gw_t (i := 1092) (by decide +kernel) (by decide +kernel)
theorem ml9_256 : Cond.methodLink "MaskedThrowsModel" 256 (mY 134) ∈ gw := gw_t (i := 1095) (by decide +kernel) (by decide +kernel)
theorem ml9_259 : Cond.methodLink "MaskedThrowsModel" 259 (mY 135) ∈ gw := gw_t (i := 1099) (by decide +kernel) (by decide +kernel)
theorem ml9_301 : Cond.methodLink "MaskedThrowsModel" 301 (mY 136) ∈ gw := gw_t (i := 1103) (by decide +kernel) (by decide +kernel)
theorem ml9_307 : Cond.methodLink "MaskedThrowsModel" 307 (mY 137) ∈ gw := gw_t (i := 1107) (by decide +kernel) (by decide +kernel)
theorem ml9_310 : Cond.methodLink "MaskedThrowsModel" 310 (mY 138) ∈ gw := gw_t (i := 1111) (by decide +kernel) (by decide +kernel)
theorem ml9_314 : Cond.methodLink "MaskedThrowsModel" 314 (mY 139) ∈ gw := gw_t (i := 1115) (by decide +kernel) (by decide +kernel)
theorem ml9_295 : Cond.methodLink "MaskedThrowsModel" 295 (mY 140) ∈ gw := gw_t (i := 1119) (by decide +kernel) (by decide +kernel)
theorem ml9_304 : Cond.methodLink "MaskedThrowsModel" 304 (mY 141) ∈ gw := gw_t (i := 1123) (by decide +kernel) (by decide +kernel)
theorem ml9_317 : Cond.methodLink "MaskedThrowsModel" 317 (mY 142) ∈ gw := gw_t (i := 1127) (by decide +kernel) (by decide +kernel)
theorem ml9_320 : Cond.methodLink "MaskedThrowsModel" 320 (mY 143) ∈ gw := gw_t (i := 1130) (by decide +kernel) (by decide +kernel)
theorem ml9_324 : Cond.methodLink "MaskedThrowsModel" 324 (mY 144) ∈ gw := gw_t (i := 1134) (by decide +kernel) (by decide +kernel)
theorem ml9_327 : Cond.methodLink "MaskedThrowsModel" 327 (mY 145) ∈ gw := gw_t (i := 1138) (by decide +kernel) (by decide +kernel)
theorem ml9_330 : Cond.methodLink "MaskedThrowsModel" 330 (mY 146) ∈ gw := gw_t (i := 1142) (by decide +kernel) (by decide +kernel)
theorem ml9_284 : Cond.methodLink "MaskedThrowsModel" 284 (mY 147) ∈ gw := gw_t (i := 1146) (by decide +kernel) (by decide +kernel)
theorem ml9_274 : Cond.methodLink "MaskedThrowsModel" 274 (mY 148) ∈ gw := gw_t (i := 1150) (by decide +kernel) (by decide +kernel)
theorem ml9_292 : Cond.methodLink "MaskedThrowsModel" 292 (mY 149) ∈ gw := gw_t (i := 1154) (by decide +kernel) (by decide +kernel)
theorem ml9_288 : Cond.methodLink "MaskedThrowsModel" 288 (mY 150) ∈ gw := gw_t (i := 1158) (by decide +kernel) (by decide +kernel)
theorem ml9_271 : Cond.methodLink "MaskedThrowsModel" 271 (mY 151) ∈ gw := gw_t (i := 1162) (by decide +kernel) (by decide +kernel)
theorem ml9_333 : Cond.methodLink "MaskedThrowsModel" 333 (mY 152) ∈ gw := gw_t (i := 1165) (by decide +kernel) (by decide +kernel)
theorem ml9_338 : Cond.methodLink "MaskedThrowsModel" 338 (mY 153) ∈ gw := gw_t (i := 1170) (by decide +kernel) (by decide +kernel)
theorem ml10_31 : Cond.methodLink "MaskedThrowsLaw" 31 (mY 154) ∈ gw := gw_t (i := 1175) (by decide +kernel) (by decide +kernel)
theorem ml10_36 : Cond.methodLink "MaskedThrowsLaw" 36 (mY 155) ∈ gw := gw_t (i := 1179) (by decide +kernel) (by decide +kernel)
theorem ml10_40 : Cond.methodLink "MaskedThrowsLaw" 40 (mY 156) ∈ gw := gw_t (i := 1183) (by decide +kernel) (by decide +kernel)
theorem ml9_419 : Cond.methodLink "MaskedThrowsModel" 419 (mY 157) ∈ gw := gw_t (i := 1187) (by decide +kernel) (by decide +kernel)
theorem ml10_44 : Cond.methodLink "MaskedThrowsLaw" 44 (mY 158) ∈ gw := gw_t (i := 1190) (by decide +kernel) (by decide +kernel)
theorem ml9_422 : Cond.methodLink "MaskedThrowsModel" 422 (mY 159) ∈ gw := gw_t (i := 1194) (by decide +kernel) (by decide +kernel)
theorem ml9_413 : Cond.methodLink "MaskedThrowsModel" 413 (mY 160) ∈ gw := gw_t (i := 1198) (by decide +kernel) (by decide +kernel)
theorem ml9_386 : Cond.methodLink "MaskedThrowsModel" 386 (mY 161) ∈ gw := gw_t (i := 1202) (by decide +kernel) (by decide +kernel)
theorem ml9_416 : Cond.methodLink "MaskedThrowsModel" 416 (mY 162) ∈ gw := gw_t (i := 1206) (by decide +kernel) (by decide +kernel)
theorem ml9_393 : Cond.methodLink "MaskedThrowsModel" 393 (mY 163) ∈ gw := gw_t (i := 1210) (by decide +kernel) (by decide +kernel)
theorem ml9_361 : Cond.methodLink "MaskedThrowsModel" 361 (mY 164) ∈ gw := gw_t (i := 1214) (by decide +kernel) (by decide +kernel)
theorem ml9_356 : Cond.methodLink "MaskedThrowsModel" 356 (mY 165) ∈ gw := gw_t (i := 1218) (by decide +kernel) (by decide +kernel)
theorem ml9_364 : Cond.methodLink "MaskedThrowsModel" 364 (mY 166) ∈ gw := gw_t (i := 1222) (by decide +kernel) (by decide +kernel)
theorem ml9_367 : Cond.methodLink "MaskedThrowsModel" 367 (mY 167) ∈ gw := gw_t (i := 1226) (by decide +kernel) (by decide +kernel)
theorem ml9_371 : Cond.methodLink "MaskedThrowsModel" 371 (mY 168) ∈ gw := gw_t (i := 1231) (by decide +kernel) (by decide +kernel)
theorem ml9_378 : Cond.methodLink "MaskedThrowsModel" 378 (mY 169) ∈ gw := gw_t (i := 1234) (by decide +kernel) (by decide +kernel)
theorem ml9_375 : Cond.methodLink "MaskedThrowsModel" 375 (mY 170) ∈ gw := gw_t (i := 1238) (by decide +kernel) (by decide +kernel)
theorem ml9_382 : Cond.methodLink "MaskedThrowsModel" 382 (mY 171) ∈ gw := gw_t (i := 1242) (by decide +kernel) (by decide +kernel)
theorem ml9_390 : Cond.methodLink "MaskedThrowsModel" 390 (mY 172) ∈ gw := gw_t (i := 1246) (by decide +kernel) (by decide +kernel)
theorem ml9_396 : Cond.methodLink "MaskedThrowsModel" 396 (mY 173) ∈ gw := gw_t (i := 1250) (by decide +kernel) (by decide +kernel)
theorem ml9_400 : Cond.methodLink "MaskedThrowsModel" 400 (mY 174) ∈ gw := gw_t (i := 1254) (by decide +kernel) (by decide +kernel)
theorem ml9_403 : Cond.methodLink "MaskedThrowsModel" 403 (mY 175) ∈ gw := gw_t (i := 1258) (by decide +kernel) (by decide +kernel)
theorem ml9_410 : Cond.methodLink "MaskedThrowsModel" 410 (mY 176) ∈ gw := gw_t (i := 1262) (by decide +kernel) (by decide +kernel)
theorem ml10_51 : Cond.methodLink "MaskedThrowsLaw" 51 (mY 177) ∈ gw := gw_t (i := 1266) (by decide +kernel) (by decide +kernel)
theorem ml10_56 : Cond.methodLink "MaskedThrowsLaw" 56 (mY 178) ∈ gw := gw_t (i := 1272) (by decide +kernel) (by decide +kernel)
theorem ml10_60 : Cond.methodLink "MaskedThrowsLaw" 60 (mY 179) ∈ gw := gw_t (i := 1276) (by decide +kernel) (by decide +kernel)
theorem ml9_429 : Cond.methodLink "MaskedThrowsModel" 429 (mY 180) ∈ gw := gw_t (i := 1280) (by decide +kernel) (by decide +kernel)
theorem ml10_64 : Cond.methodLink "MaskedThrowsLaw" 64 (mY 181) ∈ gw := gw_t (i := 1283) (by decide +kernel) (by decide +kernel)
theorem ml10_69 : Cond.methodLink "MaskedThrowsLaw" 69 (mY 182) ∈ gw := gw_t (i := 1287) (by decide +kernel) (by decide +kernel)
theorem ml10_73 : Cond.methodLink "MaskedThrowsLaw" 73 (mY 183) ∈ gw := gw_t (i := 1291) (by decide +kernel) (by decide +kernel)
theorem ml10_77 : Cond.methodLink "MaskedThrowsLaw" 77 (mY 184) ∈ gw := gw_t (i := 1295) (by decide +kernel) (by decide +kernel)
theorem ml10_82 : Cond.methodLink "MaskedThrowsLaw" 82 (mY 185) ∈ gw := gw_t (i := 1299) (by decide +kernel) (by decide +kernel)
theorem ml10_87 : Cond.methodLink "MaskedThrowsLaw" 87 (mY 186) ∈ gw := gw_t (i := 1303) (by decide +kernel) (by decide +kernel)
theorem ml9_432 : Cond.methodLink "MaskedThrowsModel" 432 (mY 187) ∈ gw := gw_t (i := 1307) (by decide +kernel) (by decide +kernel)
theorem ml10_91 : Cond.methodLink "MaskedThrowsLaw" 91 (mY 188) ∈ gw := gw_t (i := 1311) (by decide +kernel) (by decide +kernel)
theorem ml10_95 : Cond.methodLink "MaskedThrowsLaw" 95 (mY 189) ∈ gw := gw_t (i := 1315) (by decide +kernel) (by decide +kernel)
theorem ml9_438 : Cond.methodLink "MaskedThrowsModel" 438 (mY 190) ∈ gw := gw_t (i := 1319) (by decide +kernel) (by decide +kernel)
theorem ml9_435 : Cond.methodLink "MaskedThrowsModel" 435 (mY 191) ∈ gw := gw_t (i := 1323) (by decide +kernel) (by decide +kernel)
theorem ml10_99 : Cond.methodLink "MaskedThrowsLaw" 99 (mY 192) ∈ gw := gw_t (i := 1327) (by decide +kernel) (by decide +kernel)
theorem ml10_103 : Cond.methodLink "MaskedThrowsLaw" 103 (mY 193) ∈ gw := gw_t (i := 1331) (by decide +kernel) (by decide +kernel)
theorem ml10_107 : Cond.methodLink "MaskedThrowsLaw" 107 (mY 194) ∈ gw := gw_t (i := 1335) (by decide +kernel) (by decide +kernel)
theorem ml10_111 : Cond.methodLink "MaskedThrowsLaw" 111 (mY 195) ∈ gw := gw_t (i := 1339) (by decide +kernel) (by decide +kernel)
theorem ml10_115 : Cond.methodLink "MaskedThrowsLaw" 115 (mY 196) ∈ gw := gw_t (i := 1343) (by decide +kernel) (by decide +kernel)
theorem fl6_9 : Cond.fieldLink "MaskedThrows$Tokens" 9 (fT6 0).1 (fT6 0).2.1 (fT6 0).2.2.1 ∈ gw := gw_t (i := 36) (by decide +kernel) (by decide +kernel)
theorem fl3_46 : Cond.fieldLink "MaskedThrows$Parser" 46 (fT6 0).1 (fT6 0).2.1 (fT6 0).2.2.1 ∈ gw := gw_t (i := 37) (by decide +kernel) (by decide +kernel)
theorem fl6_15 : Cond.fieldLink "MaskedThrows$Tokens" 15 (fT6 1).1 (fT6 1).2.1 (fT6 1).2.2.1 ∈ gw := gw_t (i := 38) (by decide +kernel) (by decide +kernel)
theorem fl3_92 : Cond.fieldLink "MaskedThrows$Parser" 92 (fT6 1).1 (fT6 1).2.1 (fT6 1).2.2.1 ∈ gw := gw_t (i := 39) (by decide +kernel) (by decide +kernel)
theorem fl6_18 : Cond.fieldLink "MaskedThrows$Tokens" 18 (fT6 2).1 (fT6 2).2.1 (fT6 2).2.2.1 ∈ gw := gw_t (i := 40) (by decide +kernel) (by decide +kernel)
theorem fl3_39 : Cond.fieldLink "MaskedThrows$Parser" 39 (fT6 2).1 (fT6 2).2.1 (fT6 2).2.2.1 ∈ gw := gw_t (i := 41) (by decide +kernel) (by decide +kernel)
theorem fl6_21 : Cond.fieldLink "MaskedThrows$Tokens" 21 (fT6 3).1 (fT6 3).2.1 (fT6 3).2.2.1 ∈ gw := gw_t (i := 42) (by decide +kernel) (by decide +kernel)
theorem fl3_12 : Cond.fieldLink "MaskedThrows$Parser" 12 (fT3 0).1 (fT3 0).2.1 (fT3 0).2.2.1 ∈ gw := gw_t (i := 53) (by decide +kernel) (by decide +kernel)
theorem fl3_27 : Cond.fieldLink "MaskedThrows$Parser" 27 (fT3 1).1 (fT3 1).2.1 (fT3 1).2.2.1 ∈ gw := gw_t (i := 54) (by decide +kernel) (by decide +kernel)
theorem fl3_31 : Cond.fieldLink "MaskedThrows$Parser" 31 (fT3 2).1 (fT3 2).2.1 (fT3 2).2.2.1 ∈ gw := gw_t (i := 55) (by decide +kernel) (by decide +kernel)
theorem fl4_43 : Cond.fieldLink "MaskedThrows$Program" 43 (fT4 0).1 (fT4 0).2.1 (fT4 0).2.2.1 ∈ gw := gw_t (i := 70) (by decide +kernel) (by decide +kernel)
theorem fl3_49 : Cond.fieldLink "MaskedThrows$Parser" 49 (fT4 0).1 (fT4 0).2.1 (fT4 0).2.2.1 ∈ gw := gw_t (i := 71) (by decide +kernel) (by decide +kernel)
theorem fl8_56 : Cond.fieldLink "MaskedThrows" 56 (fT4 0).1 (fT4 0).2.1 (fT4 0).2.2.1 ∈ gw := gw_t (i := 72) (by decide +kernel) (by decide +kernel)
theorem fl4_47 : Cond.fieldLink "MaskedThrows$Program" 47 (fT4 1).1 (fT4 1).2.1 (fT4 1).2.2.1 ∈ gw := gw_t (i := 73) (by decide +kernel) (by decide +kernel)
theorem fl8_59 : Cond.fieldLink "MaskedThrows" 59 (fT4 1).1 (fT4 1).2.1 (fT4 1).2.2.1 ∈ gw := gw_t (i := 74) (by decide +kernel) (by decide +kernel)
theorem fl3_131 : Cond.fieldLink "MaskedThrows$Parser" 131 (fT4 1).1 (fT4 1).2.1 (fT4 1).2.2.1 ∈ gw := gw_t (i := 75) (by decide +kernel) (by decide +kernel)
theorem fl4_50 : Cond.fieldLink "MaskedThrows$Program" 50 (fT4 2).1 (fT4 2).2.1 (fT4 2).2.2.1 ∈ gw := gw_t (i := 76) (by decide +kernel) (by decide +kernel)
theorem fl8_62 : Cond.fieldLink "MaskedThrows" 62 (fT4 2).1 (fT4 2).2.1 (fT4 2).2.2.1 ∈ gw := gw_t (i := 77) (by decide +kernel) (by decide +kernel)
theorem fl3_98 : Cond.fieldLink "MaskedThrows$Parser" 98 (fT4 2).1 (fT4 2).2.1 (fT4 2).2.2.1 ∈ gw := gw_t (i := 78) (by decide +kernel) (by decide +kernel)
theorem fl4_53 : Cond.fieldLink "MaskedThrows$Program" 53 (fT4 3).1 (fT4 3).2.1 (fT4 3).2.2.1 ∈ gw := gw_t (i := 79) (by decide +kernel) (by decide +kernel)
theorem fl3_110 : Cond.fieldLink "MaskedThrows$Parser" 110 (fT4 3).1 (fT4 3).2.1 (fT4 3).2.2.1 ∈ gw := gw_t (i := 80) (by decide +kernel) (by decide +kernel)
theorem fl4_9 : Cond.fieldLink "MaskedThrows$Program" 9 (fT4 4).1 (fT4 4).2.1 (fT4 4).2.2.1 ∈ gw := gw_t (i := 81) (by decide +kernel) (by decide +kernel)
theorem fl7_134 : Cond.fieldLink "MaskedThrows$World" 134 (fT4 4).1 (fT4 4).2.1 (fT4 4).2.2.1 ∈ gw := gw_t (i := 82) (by decide +kernel) (by decide +kernel)
theorem fl2_112 : Cond.fieldLink "MaskedThrows$Fiber" 112 (fT4 4).1 (fT4 4).2.1 (fT4 4).2.2.1 ∈ gw := gw_t (i := 83) (by decide +kernel) (by decide +kernel)
theorem fl4_15 : Cond.fieldLink "MaskedThrows$Program" 15 (fT4 5).1 (fT4 5).2.1 (fT4 5).2.2.1 ∈ gw := gw_t (i := 84) (by decide +kernel) (by decide +kernel)
theorem fl3_89 : Cond.fieldLink "MaskedThrows$Parser" 89 (fT4 5).1 (fT4 5).2.1 (fT4 5).2.2.1 ∈ gw := gw_t (i := 85) (by decide +kernel) (by decide +kernel)
theorem fl7_140 : Cond.fieldLink "MaskedThrows$World" 140 (fT4 5).1 (fT4 5).2.1 (fT4 5).2.2.1 ∈ gw := gw_t (i := 86) (by decide +kernel) (by decide +kernel)
theorem fl2_186 : Cond.fieldLink "MaskedThrows$Fiber" 186 (fT4 5).1 (fT4 5).2.1 (fT4 5).2.2.1 ∈ gw := gw_t (i := 87) (by decide +kernel) (by decide +kernel)
theorem fl4_18 : Cond.fieldLink "MaskedThrows$Program" 18 (fT4 6).1 (fT4 6).2.1 (fT4 6).2.2.1 ∈ gw := gw_t (i := 88) (by decide +kernel) (by decide +kernel)
theorem fl3_95 : Cond.fieldLink "MaskedThrows$Parser" 95 (fT4 6).1 (fT4 6).2.1 (fT4 6).2.2.1 ∈ gw := gw_t (i := 89) (by decide +kernel) (by decide +kernel)
theorem fl7_175 : Cond.fieldLink "MaskedThrows$World" 175 (fT4 6).1 (fT4 6).2.1 (fT4 6).2.2.1 ∈ gw := gw_t (i := 90) (by decide +kernel) (by decide +kernel)
theorem fl2_146 : Cond.fieldLink "MaskedThrows$Fiber" 146 (fT4 6).1 (fT4 6).2.1 (fT4 6).2.2.1 ∈ gw := gw_t (i := 91) (by decide +kernel) (by decide +kernel)
theorem fl4_21 : Cond.fieldLink "MaskedThrows$Program" 21 (fT4 7).1 (fT4 7).2.1 (fT4 7).2.2.1 ∈ gw := gw_t (i := 92) (by decide +kernel) (by decide +kernel)
theorem fl3_107 : Cond.fieldLink "MaskedThrows$Parser" 107 (fT4 7).1 (fT4 7).2.1 (fT4 7).2.2.1 ∈ gw := gw_t (i := 93) (by decide +kernel) (by decide +kernel)
theorem fl4_24 : Cond.fieldLink "MaskedThrows$Program" 24 (fT4 8).1 (fT4 8).2.1 (fT4 8).2.2.1 ∈ gw := gw_t (i := 94) (by decide +kernel) (by decide +kernel)
theorem fl3_116 : Cond.fieldLink "MaskedThrows$Parser" 116 (fT4 8).1 (fT4 8).2.1 (fT4 8).2.2.1 ∈ gw := gw_t (i := 95) (by decide +kernel) (by decide +kernel)
theorem fl4_27 : Cond.fieldLink "MaskedThrows$Program" 27 (fT4 9).1 (fT4 9).2.1 (fT4 9).2.2.1 ∈ gw := gw_t (i := 96) (by decide +kernel) (by decide +kernel)
theorem fl3_56 : Cond.fieldLink "MaskedThrows$Parser" 56 (fT4 9).1 (fT4 9).2.1 (fT4 9).2.2.1 ∈ gw := gw_t (i := 97) (by decide +kernel) (by decide +kernel)
theorem fl2_98 : Cond.fieldLink "MaskedThrows$Fiber" 98 (fT4 9).1 (fT4 9).2.1 (fT4 9).2.2.1 ∈ gw := gw_t (i := 98) (by decide +kernel) (by decide +kernel)
theorem fl4_30 : Cond.fieldLink "MaskedThrows$Program" 30 (fT4 10).1 (fT4 10).2.1 (fT4 10).2.2.1 ∈ gw := gw_t (i := 99) (by decide +kernel) (by decide +kernel)
theorem fl3_43 : Cond.fieldLink "MaskedThrows$Parser" 43 (fT4 10).1 (fT4 10).2.1 (fT4 10).2.2.1 ∈ gw := gw_t (i := 100) (by decide +kernel) (by decide +kernel)
theorem fl2_72 : Cond.fieldLink "MaskedThrows$Fiber" 72 (fT4 10).1 (fT4 10).2.1 (fT4 10).2.2.1 ∈ gw := gw_t (i := 101) (by decide +kernel) (by decide +kernel)
theorem fl4_33 : Cond.fieldLink "MaskedThrows$Program" 33 (fT4 11).1 (fT4 11).2.1 (fT4 11).2.2.1 ∈ gw := gw_t (i := 102) (by decide +kernel) (by decide +kernel)
theorem fl4_36 : Cond.fieldLink "MaskedThrows$Program" 36 (fT4 12).1 (fT4 12).2.1 (fT4 12).2.2.1 ∈ gw := gw_t (i := 103) (by decide +kernel) (by decide +kernel)
theorem fl4_39 : Cond.fieldLink "MaskedThrows$Program" 39 (fT4 13).1 (fT4 13).2.1 (fT4 13).2.2.1 ∈ gw := gw_t (i := 104) (by decide +kernel) (by decide +kernel)
theorem fl7_44 : Cond.fieldLink "MaskedThrows$World" 44 (fT1 0).1 (fT1 0).2.1 (fT1 0).2.2.1 ∈ gw := gw_t (i := 147) (by decide +kernel) (by decide +kernel)
theorem fl1_27 : Cond.fieldLink "MaskedThrows$Chronicle" 27 (fT1 0).1 (fT1 0).2.1 (fT1 0).2.2.1 ∈ gw := gw_t (i := 148) (by decide +kernel) (by decide +kernel)
theorem fl2_118 : Cond.fieldLink "MaskedThrows$Fiber" 118 (fT1 0).1 (fT1 0).2.1 (fT1 0).2.2.1 ∈ gw := gw_t (i := 149) (by decide +kernel) (by decide +kernel)
theorem fl8_163 : Cond.fieldLink "MaskedThrows" 163 (fT1 0).1 (fT1 0).2.1 (fT1 0).2.2.1 ∈ gw := gw_t (i := 150) (by decide +kernel) (by decide +kernel)
theorem fl1_23 : Cond.fieldLink "MaskedThrows$Chronicle" 23 (fT1 1).1 (fT1 1).2.1 (fT1 1).2.2.1 ∈ gw := gw_t (i := 151) (by decide +kernel) (by decide +kernel)
theorem fl7_48 : Cond.fieldLink "MaskedThrows$World" 48 (fT1 1).1 (fT1 1).2.1 (fT1 1).2.2.1 ∈ gw := gw_t (i := 152) (by decide +kernel) (by decide +kernel)
theorem fl8_168 : Cond.fieldLink "MaskedThrows" 168 (fT1 1).1 (fT1 1).2.1 (fT1 1).2.2.1 ∈ gw := gw_t (i := 153) (by decide +kernel) (by decide +kernel)
theorem fl1_7 : Cond.fieldLink "MaskedThrows$Chronicle" 7 (fT1 2).1 (fT1 2).2.1 (fT1 2).2.2.1 ∈ gw := gw_t (i := 154) (by decide +kernel) (by decide +kernel)
theorem fl8_172 : Cond.fieldLink "MaskedThrows" 172 (fT1 2).1 (fT1 2).2.1 (fT1 2).2.2.1 ∈ gw := gw_t (i := 155) (by decide +kernel) (by decide +kernel)
theorem fl1_13 : Cond.fieldLink "MaskedThrows$Chronicle" 13 (fT1 3).1 (fT1 3).2.1 (fT1 3).2.2.1 ∈ gw := gw_t (i := 156) (by decide +kernel) (by decide +kernel)
theorem fl8_175 : Cond.fieldLink "MaskedThrows" 175 (fT1 3).1 (fT1 3).2.1 (fT1 3).2.2.1 ∈ gw := gw_t (i := 157) (by decide +kernel) (by decide +kernel)
theorem fl1_16 : Cond.fieldLink "MaskedThrows$Chronicle" 16 (fT1 4).1 (fT1 4).2.1 (fT1 4).2.2.1 ∈ gw := gw_t (i := 158) (by decide +kernel) (by decide +kernel)
theorem fl8_178 : Cond.fieldLink "MaskedThrows" 178 (fT1 4).1 (fT1 4).2.1 (fT1 4).2.2.1 ∈ gw := gw_t (i := 159) (by decide +kernel) (by decide +kernel)
theorem fl1_19 : Cond.fieldLink "MaskedThrows$Chronicle" 19 (fT1 5).1 (fT1 5).2.1 (fT1 5).2.2.1 ∈ gw := gw_t (i := 160) (by decide +kernel) (by decide +kernel)
theorem fl8_181 : Cond.fieldLink "MaskedThrows" 181 (fT1 5).1 (fT1 5).2.1 (fT1 5).2.2.1 ∈ gw := gw_t (i := 161) (by decide +kernel) (by decide +kernel)
theorem fl5_22 : Cond.fieldLink "MaskedThrows$Row" 22 (fT5 0).1 (fT5 0).2.1 (fT5 0).2.2.1 ∈ gw := gw_t (i := 191) (by decide +kernel) (by decide +kernel)
theorem fl2_57 : Cond.fieldLink "MaskedThrows$Fiber" 57 (fT5 0).1 (fT5 0).2.1 (fT5 0).2.2.1 ∈ gw := gw_t (i := 192) (by decide +kernel) (by decide +kernel)
theorem fl7_79 : Cond.fieldLink "MaskedThrows$World" 79 (fT5 0).1 (fT5 0).2.1 (fT5 0).2.2.1 ∈ gw := gw_t (i := 193) (by decide +kernel) (by decide +kernel)
theorem fl8_103 : Cond.fieldLink "MaskedThrows" 103 (fT5 0).1 (fT5 0).2.1 (fT5 0).2.2.1 ∈ gw := gw_t (i := 194) (by decide +kernel) (by decide +kernel)
theorem fl5_9 : Cond.fieldLink "MaskedThrows$Row" 9 (fT5 1).1 (fT5 1).2.1 (fT5 1).2.2.1 ∈ gw := gw_t (i := 195) (by decide +kernel) (by decide +kernel)
theorem fl8_147 : Cond.fieldLink "MaskedThrows" 147 (fT5 1).1 (fT5 1).2.1 (fT5 1).2.2.1 ∈ gw := gw_t (i := 196) (by decide +kernel) (by decide +kernel)
theorem fl5_15 : Cond.fieldLink "MaskedThrows$Row" 15 (fT5 2).1 (fT5 2).2.1 (fT5 2).2.2.1 ∈ gw := gw_t (i := 197) (by decide +kernel) (by decide +kernel)
theorem fl7_106 : Cond.fieldLink "MaskedThrows$World" 106 (fT5 2).1 (fT5 2).2.1 (fT5 2).2.2.1 ∈ gw := gw_t (i := 198) (by decide +kernel) (by decide +kernel)
theorem fl8_150 : Cond.fieldLink "MaskedThrows" 150 (fT5 2).1 (fT5 2).2.1 (fT5 2).2.2.1 ∈ gw := gw_t (i := 199) (by decide +kernel) (by decide +kernel)
theorem fl5_18 : Cond.fieldLink "MaskedThrows$Row" 18 (fT5 3).1 (fT5 3).2.1 (fT5 3).2.2.1 ∈ gw := gw_t (i := 200) (by decide +kernel) (by decide +kernel)
theorem fl7_99 : Cond.fieldLink "MaskedThrows$World" 99 (fT5 3).1 (fT5 3).2.1 (fT5 3).2.2.1 ∈ gw := gw_t (i := 201) (by decide +kernel) (by decide +kernel)
theorem fl8_153 : Cond.fieldLink "MaskedThrows" 153 (fT5 3).1 (fT5 3).2.1 (fT5 3).2.2.1 ∈ gw := gw_t (i := 202) (by decide +kernel) (by decide +kernel)
theorem fl0_9 : Cond.fieldLink "MaskedThrows$Body" 9 (fT0 0).1 (fT0 0).2.1 (fT0 0).2.2.1 ∈ gw := gw_t (i := 219) (by decide +kernel) (by decide +kernel)
theorem fl2_124 : Cond.fieldLink "MaskedThrows$Fiber" 124 (fT0 0).1 (fT0 0).2.1 (fT0 0).2.2.1 ∈ gw := gw_t (i := 220) (by decide +kernel) (by decide +kernel)
theorem fl0_22 : Cond.fieldLink "MaskedThrows$Body" 22 (fT0 1).1 (fT0 1).2.1 (fT0 1).2.2.1 ∈ gw := gw_t (i := 221) (by decide +kernel) (by decide +kernel)
theorem fl2_152 : Cond.fieldLink "MaskedThrows$Fiber" 152 (fT0 1).1 (fT0 1).2.1 (fT0 1).2.2.1 ∈ gw := gw_t (i := 222) (by decide +kernel) (by decide +kernel)
theorem fl0_15 : Cond.fieldLink "MaskedThrows$Body" 15 (fT0 2).1 (fT0 2).2.1 (fT0 2).2.2.1 ∈ gw := gw_t (i := 223) (by decide +kernel) (by decide +kernel)
theorem fl2_135 : Cond.fieldLink "MaskedThrows$Fiber" 135 (fT0 2).1 (fT0 2).2.1 (fT0 2).2.2.1 ∈ gw := gw_t (i := 224) (by decide +kernel) (by decide +kernel)
theorem fl0_25 : Cond.fieldLink "MaskedThrows$Body" 25 (fT0 3).1 (fT0 3).2.1 (fT0 3).2.2.1 ∈ gw := gw_t (i := 225) (by decide +kernel) (by decide +kernel)
theorem fl2_91 : Cond.fieldLink "MaskedThrows$Fiber" 91 (fT0 3).1 (fT0 3).2.1 (fT0 3).2.2.1 ∈ gw := gw_t (i := 226) (by decide +kernel) (by decide +kernel)
theorem fl0_28 : Cond.fieldLink "MaskedThrows$Body" 28 (fT0 4).1 (fT0 4).2.1 (fT0 4).2.2.1 ∈ gw := gw_t (i := 227) (by decide +kernel) (by decide +kernel)
theorem fl2_115 : Cond.fieldLink "MaskedThrows$Fiber" 115 (fT0 4).1 (fT0 4).2.1 (fT0 4).2.2.1 ∈ gw := gw_t (i := 228) (by decide +kernel) (by decide +kernel)
theorem fl0_35 : Cond.fieldLink "MaskedThrows$Body" 35 (fT0 5).1 (fT0 5).2.1 (fT0 5).2.2.1 ∈ gw := gw_t (i := 229) (by decide +kernel) (by decide +kernel)
theorem fl2_121 : Cond.fieldLink "MaskedThrows$Fiber" 121 (fT0 5).1 (fT0 5).2.1 (fT0 5).2.2.1 ∈ gw := gw_t (i := 230) (by decide +kernel) (by decide +kernel)
theorem fl0_31 : Cond.fieldLink "MaskedThrows$Body" 31 (fT0 6).1 (fT0 6).2.1 (fT0 6).2.2.1 ∈ gw := gw_t (i := 231) (by decide +kernel) (by decide +kernel)
theorem fl2_94 : Cond.fieldLink "MaskedThrows$Fiber" 94 (fT0 6).1 (fT0 6).2.1 (fT0 6).2.2.1 ∈ gw := gw_t (i := 232) (by decide +kernel) (by decide +kernel)
theorem fl0_38 : Cond.fieldLink "MaskedThrows$Body" 38 (fT0 7).1 (fT0 7).2.1 (fT0 7).2.2.1 ∈ gw := gw_t (i := 233) (by decide +kernel) (by decide +kernel)
theorem fl2_162 : Cond.fieldLink "MaskedThrows$Fiber" 162 (fT0 7).1 (fT0 7).2.1 (fT0 7).2.2.1 ∈ gw := gw_t (i := 234) (by decide +kernel) (by decide +kernel)
theorem fl0_42 : Cond.fieldLink "MaskedThrows$Body" 42 (fT0 8).1 (fT0 8).2.1 (fT0 8).2.2.1 ∈ gw := gw_t (i := 235) (by decide +kernel) (by decide +kernel)
theorem fl2_165 : Cond.fieldLink "MaskedThrows$Fiber" 165 (fT0 8).1 (fT0 8).2.1 (fT0 8).2.2.1 ∈ gw := gw_t (i := 236) (by decide +kernel) (by decide +kernel)
theorem fl2_28 : Cond.fieldLink "MaskedThrows$Fiber" 28 (fT2 0).1 (fT2 0).2.1 (fT2 0).2.2.1 ∈ gw := gw_t (i := 256) (by decide +kernel) (by decide +kernel)
theorem fl7_116 : Cond.fieldLink "MaskedThrows$World" 116 (fT2 0).1 (fT2 0).2.1 (fT2 0).2.2.1 ∈ gw := gw_t (i := 257) (by decide +kernel) (by decide +kernel)
theorem fl2_12 : Cond.fieldLink "MaskedThrows$Fiber" 12 (fT2 1).1 (fT2 1).2.1 (fT2 1).2.2.1 ∈ gw := gw_t (i := 258) (by decide +kernel) (by decide +kernel)
theorem fl7_75 : Cond.fieldLink "MaskedThrows$World" 75 (fT2 1).1 (fT2 1).2.1 (fT2 1).2.2.1 ∈ gw := gw_t (i := 259) (by decide +kernel) (by decide +kernel)
theorem fl8_89 : Cond.fieldLink "MaskedThrows" 89 (fT2 1).1 (fT2 1).2.1 (fT2 1).2.2.1 ∈ gw := gw_t (i := 260) (by decide +kernel) (by decide +kernel)
theorem fl2_18 : Cond.fieldLink "MaskedThrows$Fiber" 18 (fT2 2).1 (fT2 2).2.1 (fT2 2).2.2.1 ∈ gw := gw_t (i := 261) (by decide +kernel) (by decide +kernel)
theorem fl7_137 : Cond.fieldLink "MaskedThrows$World" 137 (fT2 2).1 (fT2 2).2.1 (fT2 2).2.2.1 ∈ gw := gw_t (i := 262) (by decide +kernel) (by decide +kernel)
theorem fl8_140 : Cond.fieldLink "MaskedThrows" 140 (fT2 2).1 (fT2 2).2.1 (fT2 2).2.2.1 ∈ gw := gw_t (i := 263) (by decide +kernel) (by decide +kernel)
theorem fl2_24 : Cond.fieldLink "MaskedThrows$Fiber" 24 (fT2 3).1 (fT2 3).2.1 (fT2 3).2.2.1 ∈ gw := gw_t (i := 264) (by decide +kernel) (by decide +kernel)
theorem fl2_32 : Cond.fieldLink "MaskedThrows$Fiber" 32 (fT2 4).1 (fT2 4).2.1 (fT2 4).2.2.1 ∈ gw := gw_t (i := 265) (by decide +kernel) (by decide +kernel)
theorem fl2_36 : Cond.fieldLink "MaskedThrows$Fiber" 36 (fT2 5).1 (fT2 5).2.1 (fT2 5).2.2.1 ∈ gw := gw_t (i := 266) (by decide +kernel) (by decide +kernel)
theorem fl7_130 : Cond.fieldLink "MaskedThrows$World" 130 (fT2 5).1 (fT2 5).2.1 (fT2 5).2.2.1 ∈ gw := gw_t (i := 267) (by decide +kernel) (by decide +kernel)
theorem fl2_44 : Cond.fieldLink "MaskedThrows$Fiber" 44 (fT2 6).1 (fT2 6).2.1 (fT2 6).2.2.1 ∈ gw := gw_t (i := 268) (by decide +kernel) (by decide +kernel)
theorem fl7_181 : Cond.fieldLink "MaskedThrows$World" 181 (fT2 6).1 (fT2 6).2.1 (fT2 6).2.2.1 ∈ gw := gw_t (i := 269) (by decide +kernel) (by decide +kernel)
theorem fl8_117 : Cond.fieldLink "MaskedThrows" 117 (fT2 6).1 (fT2 6).2.1 (fT2 6).2.2.1 ∈ gw := gw_t (i := 270) (by decide +kernel) (by decide +kernel)
theorem fl2_60 : Cond.fieldLink "MaskedThrows$Fiber" 60 (fT2 7).1 (fT2 7).2.1 (fT2 7).2.2.1 ∈ gw := gw_t (i := 271) (by decide +kernel) (by decide +kernel)
theorem fl7_72 : Cond.fieldLink "MaskedThrows$World" 72 (fT2 7).1 (fT2 7).2.1 (fT2 7).2.2.1 ∈ gw := gw_t (i := 272) (by decide +kernel) (by decide +kernel)
theorem fl8_120 : Cond.fieldLink "MaskedThrows" 120 (fT2 7).1 (fT2 7).2.1 (fT2 7).2.2.1 ∈ gw := gw_t (i := 273) (by decide +kernel) (by decide +kernel)
theorem fl2_47 : Cond.fieldLink "MaskedThrows$Fiber" 47 (fT2 8).1 (fT2 8).2.1 (fT2 8).2.2.1 ∈ gw := gw_t (i := 274) (by decide +kernel) (by decide +kernel)
theorem fl7_65 : Cond.fieldLink "MaskedThrows$World" 65 (fT2 8).1 (fT2 8).2.1 (fT2 8).2.2.1 ∈ gw := gw_t (i := 275) (by decide +kernel) (by decide +kernel)
theorem fl8_123 : Cond.fieldLink "MaskedThrows" 123 (fT2 8).1 (fT2 8).2.1 (fT2 8).2.2.1 ∈ gw := gw_t (i := 276) (by decide +kernel) (by decide +kernel)
theorem fl2_63 : Cond.fieldLink "MaskedThrows$Fiber" 63 (fT2 9).1 (fT2 9).2.1 (fT2 9).2.2.1 ∈ gw := gw_t (i := 277) (by decide +kernel) (by decide +kernel)
theorem fl8_126 : Cond.fieldLink "MaskedThrows" 126 (fT2 9).1 (fT2 9).2.1 (fT2 9).2.2.1 ∈ gw := gw_t (i := 278) (by decide +kernel) (by decide +kernel)
theorem fl2_66 : Cond.fieldLink "MaskedThrows$Fiber" 66 (fT2 10).1 (fT2 10).2.1 (fT2 10).2.2.1 ∈ gw := gw_t (i := 279) (by decide +kernel) (by decide +kernel)
theorem fl8_129 : Cond.fieldLink "MaskedThrows" 129 (fT2 10).1 (fT2 10).2.1 (fT2 10).2.2.1 ∈ gw := gw_t (i := 280) (by decide +kernel) (by decide +kernel)
theorem fl2_50 : Cond.fieldLink "MaskedThrows$Fiber" 50 (fT2 11).1 (fT2 11).2.1 (fT2 11).2.2.1 ∈ gw := gw_t (i := 281) (by decide +kernel) (by decide +kernel)
theorem fl8_136 : Cond.fieldLink "MaskedThrows" 136 (fT2 11).1 (fT2 11).2.1 (fT2 11).2.2.1 ∈ gw := gw_t (i := 282) (by decide +kernel) (by decide +kernel)
theorem fl2_40 : Cond.fieldLink "MaskedThrows$Fiber" 40 (fT2 12).1 (fT2 12).2.1 (fT2 12).2.2.1 ∈ gw := gw_t (i := 283) (by decide +kernel) (by decide +kernel)
theorem fl7_123 : Cond.fieldLink "MaskedThrows$World" 123 (fT2 12).1 (fT2 12).2.1 (fT2 12).2.2.1 ∈ gw := gw_t (i := 284) (by decide +kernel) (by decide +kernel)
theorem fl7_102 : Cond.fieldLink "MaskedThrows$World" 102 (fT2 13).1 (fT2 13).2.1 (fT2 13).2.2.1 ∈ gw := gw_t (i := 285) (by decide +kernel) (by decide +kernel)
theorem fl2_88 : Cond.fieldLink "MaskedThrows$Fiber" 88 (fT2 13).1 (fT2 13).2.1 (fT2 13).2.2.1 ∈ gw := gw_t (i := 286) (by decide +kernel) (by decide +kernel)
theorem fl7_110 : Cond.fieldLink "MaskedThrows$World" 110 (fT2 14).1 (fT2 14).2.1 (fT2 14).2.2.1 ∈ gw := gw_t (i := 287) (by decide +kernel) (by decide +kernel)
theorem fl2_168 : Cond.fieldLink "MaskedThrows$Fiber" 168 (fT2 14).1 (fT2 14).2.1 (fT2 14).2.2.1 ∈ gw := gw_t (i := 288) (by decide +kernel) (by decide +kernel)
theorem fl7_32 : Cond.fieldLink "MaskedThrows$World" 32 (fT7 0).1 (fT7 0).2.1 (fT7 0).2.2.1 ∈ gw := gw_t (i := 320) (by decide +kernel) (by decide +kernel)
theorem fl8_159 : Cond.fieldLink "MaskedThrows" 159 (fT7 0).1 (fT7 0).2.1 (fT7 0).2.2.1 ∈ gw := gw_t (i := 321) (by decide +kernel) (by decide +kernel)
theorem fl7_36 : Cond.fieldLink "MaskedThrows$World" 36 (fT7 1).1 (fT7 1).2.1 (fT7 1).2.2.1 ∈ gw := gw_t (i := 322) (by decide +kernel) (by decide +kernel)
theorem fl8_71 : Cond.fieldLink "MaskedThrows" 71 (fT7 1).1 (fT7 1).2.1 (fT7 1).2.2.1 ∈ gw := gw_t (i := 323) (by decide +kernel) (by decide +kernel)
theorem fl7_9 : Cond.fieldLink "MaskedThrows$World" 9 (fT7 2).1 (fT7 2).2.1 (fT7 2).2.2.1 ∈ gw := gw_t (i := 324) (by decide +kernel) (by decide +kernel)
theorem fl8_109 : Cond.fieldLink "MaskedThrows" 109 (fT7 2).1 (fT7 2).2.1 (fT7 2).2.2.1 ∈ gw := gw_t (i := 325) (by decide +kernel) (by decide +kernel)
theorem fl7_15 : Cond.fieldLink "MaskedThrows$World" 15 (fT7 3).1 (fT7 3).2.1 (fT7 3).2.2.1 ∈ gw := gw_t (i := 326) (by decide +kernel) (by decide +kernel)
theorem fl8_113 : Cond.fieldLink "MaskedThrows" 113 (fT7 3).1 (fT7 3).2.1 (fT7 3).2.2.1 ∈ gw := gw_t (i := 327) (by decide +kernel) (by decide +kernel)
theorem fl7_40 : Cond.fieldLink "MaskedThrows$World" 40 (fT7 4).1 (fT7 4).2.1 (fT7 4).2.2.1 ∈ gw := gw_t (i := 328) (by decide +kernel) (by decide +kernel)
theorem fl8_9 : Cond.fieldLink "MaskedThrows" 9 (fT8 0).1 (fT8 0).2.1 (fT8 0).2.2.1 ∈ gw := gw_t (i := 340) (by decide +kernel) (by decide +kernel)
theorem fl8_38 : Cond.fieldLink "MaskedThrows" 38 (fT8 1).1 (fT8 1).2.1 (fT8 1).2.2.1 ∈ gw := gw_t (i := 341) (by decide +kernel) (by decide +kernel)
theorem fl8_16 : Cond.fieldLink "MaskedThrows" 16 (fT8 2).1 (fT8 2).2.1 (fT8 2).2.2.1 ∈ gw := gw_t (i := 342) (by decide +kernel) (by decide +kernel)
theorem fl8_22 : Cond.fieldLink "MaskedThrows" 22 (fT8 3).1 (fT8 3).2.1 (fT8 3).2.2.1 ∈ gw := gw_t (i := 343) (by decide +kernel) (by decide +kernel)
theorem fl8_45 : Cond.fieldLink "MaskedThrows" 45 (fT8 4).1 (fT8 4).2.1 (fT8 4).2.2.1 ∈ gw := gw_t (i := 344) (by decide +kernel) (by decide +kernel)
theorem fl8_27 : Cond.fieldLink "MaskedThrows" 27 (fT8 5).1 (fT8 5).2.1 (fT8 5).2.2.1 ∈ gw := gw_t (i := 345) (by decide +kernel) (by decide +kernel)
theorem fl8_34 : Cond.fieldLink "MaskedThrows" 34 (fT8 6).1 (fT8 6).2.1 (fT8 6).2.2.1 ∈ gw := gw_t (i := 346) (by decide +kernel) (by decide +kernel)
theorem fl9_7 : Cond.fieldLink "MaskedThrowsModel" 7 (fT9 0).1 (fT9 0).2.1 (fT9 0).2.2.1 ∈ gw := gw_t (i := 830) (by decide +kernel) (by decide +kernel)
theorem fl9_170 : Cond.fieldLink "MaskedThrowsModel" 170 (fT9 1).1 (fT9 1).2.1 (fT9 1).2.2.1 ∈ gw := gw_t (i := 831) (by decide +kernel) (by decide +kernel)
theorem fl9_211 : Cond.fieldLink "MaskedThrowsModel" 211 (fT9 2).1 (fT9 2).2.1 (fT9 2).2.2.1 ∈ gw := gw_t (i := 832) (by decide +kernel) (by decide +kernel)
theorem fl9_221 : Cond.fieldLink "MaskedThrowsModel" 221 (fT9 3).1 (fT9 3).2.1 (fT9 3).2.2.1 ∈ gw := gw_t (i := 833) (by decide +kernel) (by decide +kernel)
theorem fl9_218 : Cond.fieldLink "MaskedThrowsModel" 218 (fT9 4).1 (fT9 4).2.1 (fT9 4).2.2.1 ∈ gw := gw_t (i := 834) (by decide +kernel) (by decide +kernel)
theorem fl9_228 : Cond.fieldLink "MaskedThrowsModel" 228 (fT9 5).1 (fT9 5).2.1 (fT9 5).2.2.1 ∈ gw := gw_t (i := 835) (by decide +kernel) (by decide +kernel)
theorem fl9_238 : Cond.fieldLink "MaskedThrowsModel" 238 (fT9 6).1 (fT9 6).2.1 (fT9 6).2.2.1 ∈ gw := gw_t (i := 836) (by decide +kernel) (by decide +kernel)
theorem fl9_246 : Cond.fieldLink "MaskedThrowsModel" 246 (fT9 7).1 (fT9 7).2.1 (fT9 7).2.2.1 ∈ gw := gw_t (i := 837) (by decide +kernel) (by decide +kernel)
theorem fl9_252 : Cond.fieldLink "MaskedThrowsModel" 252 (fT9 8).1 (fT9 8).2.1 (fT9 8).2.2.1 ∈ gw := gw_t (i := 838) (by decide +kernel) (by decide +kernel)
theorem fl9_13 : Cond.fieldLink "MaskedThrowsModel" 13 (fT9 9).1 (fT9 9).2.1 (fT9 9).2.2.1 ∈ gw := gw_t (i := 839) (by decide +kernel) (by decide +kernel)
theorem fl9_344 : Cond.fieldLink "MaskedThrowsModel" 344 (fT9 10).1 (fT9 10).2.1 (fT9 10).2.2.1 ∈ gw := gw_t (i := 840) (by decide +kernel) (by decide +kernel)
theorem fl9_17 : Cond.fieldLink "MaskedThrowsModel" 17 (fT9 11).1 (fT9 11).2.1 (fT9 11).2.2.1 ∈ gw := gw_t (i := 841) (by decide +kernel) (by decide +kernel)
theorem fl9_21 : Cond.fieldLink "MaskedThrowsModel" 21 (fT9 12).1 (fT9 12).2.1 (fT9 12).2.2.1 ∈ gw := gw_t (i := 842) (by decide +kernel) (by decide +kernel)
theorem fl9_24 : Cond.fieldLink "MaskedThrowsModel" 24 (fT9 13).1 (fT9 13).2.1 (fT9 13).2.2.1 ∈ gw := gw_t (i := 843) (by decide +kernel) (by decide +kernel)
theorem fl9_27 : Cond.fieldLink "MaskedThrowsModel" 27 (fT9 14).1 (fT9 14).2.1 (fT9 14).2.2.1 ∈ gw := gw_t (i := 844) (by decide +kernel) (by decide +kernel)
theorem fl9_30 : Cond.fieldLink "MaskedThrowsModel" 30 (fT9 15).1 (fT9 15).2.1 (fT9 15).2.2.1 ∈ gw := gw_t (i := 845) (by decide +kernel) (by decide +kernel)
theorem fl9_33 : Cond.fieldLink "MaskedThrowsModel" 33 (fT9 16).1 (fT9 16).2.1 (fT9 16).2.2.1 ∈ gw := gw_t (i := 846) (by decide +kernel) (by decide +kernel)
theorem fl9_36 : Cond.fieldLink "MaskedThrowsModel" 36 (fT9 17).1 (fT9 17).2.1 (fT9 17).2.2.1 ∈ gw := gw_t (i := 847) (by decide +kernel) (by decide +kernel)
theorem fl9_39 : Cond.fieldLink "MaskedThrowsModel" 39 (fT9 18).1 (fT9 18).2.1 (fT9 18).2.2.1 ∈ gw := gw_t (i := 848) (by decide +kernel) (by decide +kernel)
theorem fl9_42 : Cond.fieldLink "MaskedThrowsModel" 42 (fT9 19).1 (fT9 19).2.1 (fT9 19).2.2.1 ∈ gw := gw_t (i := 849) (by decide +kernel) (by decide +kernel)
theorem fl9_45 : Cond.fieldLink "MaskedThrowsModel" 45 (fT9 20).1 (fT9 20).2.1 (fT9 20).2.2.1 ∈ gw := gw_t (i := 850) (by decide +kernel) (by decide +kernel)
theorem fl9_49 : Cond.fieldLink "MaskedThrowsModel" 49 (fT9 21).1 (fT9 21).2.1 (fT9 21).2.2.1 ∈ gw := gw_t (i := 851) (by decide +kernel) (by decide +kernel)
theorem fl9_52 : Cond.fieldLink "MaskedThrowsModel" 52 (fT9 22).1 (fT9 22).2.1 (fT9 22).2.2.1 ∈ gw := gw_t (i := 852) (by decide +kernel) (by decide +kernel)
theorem fl9_55 : Cond.fieldLink "MaskedThrowsModel" 55 (fT9 23).1 (fT9 23).2.1 (fT9 23).2.2.1 ∈ gw := gw_t (i := 853) (by decide +kernel) (by decide +kernel)
theorem fl9_58 : Cond.fieldLink "MaskedThrowsModel" 58 (fT9 24).1 (fT9 24).2.1 (fT9 24).2.2.1 ∈ gw := gw_t (i := 854) (by decide +kernel) (by decide +kernel)
theorem fl9_61 : Cond.fieldLink "MaskedThrowsModel" 61 (fT9 25).1 (fT9 25).2.1 (fT9 25).2.2.1 ∈ gw := gw_t (i := 855) (by decide +kernel) (by decide +kernel)
theorem fl9_64 : Cond.fieldLink "MaskedThrowsModel" 64 (fT9 26).1 (fT9 26).2.1 (fT9 26).2.2.1 ∈ gw := gw_t (i := 856) (by decide +kernel) (by decide +kernel)
theorem fl9_265 : Cond.fieldLink "MaskedThrowsModel" 265 (fT9 27).1 (fT9 27).2.1 (fT9 27).2.2.1 ∈ gw := gw_t (i := 857) (by decide +kernel) (by decide +kernel)
theorem fl9_68 : Cond.fieldLink "MaskedThrowsModel" 68 (fT9 28).1 (fT9 28).2.1 (fT9 28).2.2.1 ∈ gw := gw_t (i := 858) (by decide +kernel) (by decide +kernel)
theorem fl9_268 : Cond.fieldLink "MaskedThrowsModel" 268 (fT9 29).1 (fT9 29).2.1 (fT9 29).2.2.1 ∈ gw := gw_t (i := 859) (by decide +kernel) (by decide +kernel)
theorem fl9_278 : Cond.fieldLink "MaskedThrowsModel" 278 (fT9 30).1 (fT9 30).2.1 (fT9 30).2.2.1 ∈ gw := gw_t (i := 860) (by decide +kernel) (by decide +kernel)
theorem fl9_71 : Cond.fieldLink "MaskedThrowsModel" 71 (fT9 31).1 (fT9 31).2.1 (fT9 31).2.2.1 ∈ gw := gw_t (i := 861) (by decide +kernel) (by decide +kernel)
theorem fl9_281 : Cond.fieldLink "MaskedThrowsModel" 281 (fT9 32).1 (fT9 32).2.1 (fT9 32).2.2.1 ∈ gw := gw_t (i := 862) (by decide +kernel) (by decide +kernel)
theorem fl9_74 : Cond.fieldLink "MaskedThrowsModel" 74 (fT9 33).1 (fT9 33).2.1 (fT9 33).2.2.1 ∈ gw := gw_t (i := 863) (by decide +kernel) (by decide +kernel)
theorem fl9_77 : Cond.fieldLink "MaskedThrowsModel" 77 (fT9 34).1 (fT9 34).2.1 (fT9 34).2.2.1 ∈ gw := gw_t (i := 864) (by decide +kernel) (by decide +kernel)
theorem fl9_80 : Cond.fieldLink "MaskedThrowsModel" 80 (fT9 35).1 (fT9 35).2.1 (fT9 35).2.2.1 ∈ gw := gw_t (i := 865) (by decide +kernel) (by decide +kernel)
theorem fl9_298 : Cond.fieldLink "MaskedThrowsModel" 298 (fT9 36).1 (fT9 36).2.1 (fT9 36).2.2.1 ∈ gw := gw_t (i := 866) (by decide +kernel) (by decide +kernel)
theorem fl9_353 : Cond.fieldLink "MaskedThrowsModel" 353 (fT9 37).1 (fT9 37).2.1 (fT9 37).2.2.1 ∈ gw := gw_t (i := 867) (by decide +kernel) (by decide +kernel)
theorem fl9_83 : Cond.fieldLink "MaskedThrowsModel" 83 (fT9 38).1 (fT9 38).2.1 (fT9 38).2.2.1 ∈ gw := gw_t (i := 868) (by decide +kernel) (by decide +kernel)
theorem fl9_86 : Cond.fieldLink "MaskedThrowsModel" 86 (fT9 39).1 (fT9 39).2.1 (fT9 39).2.2.1 ∈ gw := gw_t (i := 869) (by decide +kernel) (by decide +kernel)
theorem fl9_89 : Cond.fieldLink "MaskedThrowsModel" 89 (fT9 40).1 (fT9 40).2.1 (fT9 40).2.2.1 ∈ gw := gw_t (i := 870) (by decide +kernel) (by decide +kernel)
theorem fl9_92 : Cond.fieldLink "MaskedThrowsModel" 92 (fT9 41).1 (fT9 41).2.1 (fT9 41).2.2.1 ∈ gw := gw_t (i := 871) (by decide +kernel) (by decide +kernel)
theorem fl9_95 : Cond.fieldLink "MaskedThrowsModel" 95 (fT9 42).1 (fT9 42).2.1 (fT9 42).2.2.1 ∈ gw := gw_t (i := 872) (by decide +kernel) (by decide +kernel)
theorem fl9_98 : Cond.fieldLink "MaskedThrowsModel" 98 (fT9 43).1 (fT9 43).2.1 (fT9 43).2.2.1 ∈ gw := gw_t (i := 873) (by decide +kernel) (by decide +kernel)
theorem fl9_101 : Cond.fieldLink "MaskedThrowsModel" 101 (fT9 44).1 (fT9 44).2.1 (fT9 44).2.2.1 ∈ gw := gw_t (i := 874) (by decide +kernel) (by decide +kernel)
theorem fl9_104 : Cond.fieldLink "MaskedThrowsModel" 104 (fT9 45).1 (fT9 45).2.1 (fT9 45).2.2.1 ∈ gw := gw_t (i := 875) (by decide +kernel) (by decide +kernel)
theorem fl9_107 : Cond.fieldLink "MaskedThrowsModel" 107 (fT9 46).1 (fT9 46).2.1 (fT9 46).2.2.1 ∈ gw := gw_t (i := 876) (by decide +kernel) (by decide +kernel)
theorem fl9_110 : Cond.fieldLink "MaskedThrowsModel" 110 (fT9 47).1 (fT9 47).2.1 (fT9 47).2.2.1 ∈ gw := gw_t (i := 877) (by decide +kernel) (by decide +kernel)
theorem fl9_113 : Cond.fieldLink "MaskedThrowsModel" 113 (fT9 48).1 (fT9 48).2.1 (fT9 48).2.2.1 ∈ gw := gw_t (i := 878) (by decide +kernel) (by decide +kernel)
theorem fl9_116 : Cond.fieldLink "MaskedThrowsModel" 116 (fT9 49).1 (fT9 49).2.1 (fT9 49).2.2.1 ∈ gw := gw_t (i := 879) (by decide +kernel) (by decide +kernel)
theorem fl9_119 : Cond.fieldLink "MaskedThrowsModel" 119 (fT9 50).1 (fT9 50).2.1 (fT9 50).2.2.1 ∈ gw := gw_t (i := 880) (by decide +kernel) (by decide +kernel)
theorem fl9_122 : Cond.fieldLink "MaskedThrowsModel" 122 (fT9 51).1 (fT9 51).2.1 (fT9 51).2.2.1 ∈ gw := gw_t (i := 881) (by decide +kernel) (by decide +kernel)
theorem fl9_125 : Cond.fieldLink "MaskedThrowsModel" 125 (fT9 52).1 (fT9 52).2.1 (fT9 52).2.2.1 ∈ gw := gw_t (i := 882) (by decide +kernel) (by decide +kernel)
theorem fl9_128 : Cond.fieldLink "MaskedThrowsModel" 128 (fT9 53).1 (fT9 53).2.1 (fT9 53).2.2.1 ∈ gw := gw_t (i := 883) (by decide +kernel) (by decide +kernel)
theorem fl9_131 : Cond.fieldLink "MaskedThrowsModel" 131 (fT9 54).1 (fT9 54).2.1 (fT9 54).2.2.1 ∈ gw := gw_t (i := 884) (by decide +kernel) (by decide +kernel)
theorem fl9_134 : Cond.fieldLink "MaskedThrowsModel" 134 (fT9 55).1 (fT9 55).2.1 (fT9 55).2.2.1 ∈ gw := gw_t (i := 885) (by decide +kernel) (by decide +kernel)
theorem fl9_137 : Cond.fieldLink "MaskedThrowsModel" 137 (fT9 56).1 (fT9 56).2.1 (fT9 56).2.2.1 ∈ gw := gw_t (i := 886) (by decide +kernel) (by decide +kernel)
theorem fl9_140 : Cond.fieldLink "MaskedThrowsModel" 140 (fT9 57).1 (fT9 57).2.1 (fT9 57).2.2.1 ∈ gw := gw_t (i := 887) (by decide +kernel) (by decide +kernel)
theorem fl9_143 : Cond.fieldLink "MaskedThrowsModel" 143 (fT9 58).1 (fT9 58).2.1 (fT9 58).2.2.1 ∈ gw := gw_t (i := 888) (by decide +kernel) (by decide +kernel)
theorem fl9_146 : Cond.fieldLink "MaskedThrowsModel" 146 (fT9 59).1 (fT9 59).2.1 (fT9 59).2.2.1 ∈ gw := gw_t (i := 889) (by decide +kernel) (by decide +kernel)
theorem fl9_407 : Cond.fieldLink "MaskedThrowsModel" 407 (fT9 60).1 (fT9 60).2.1 (fT9 60).2.2.1 ∈ gw := gw_t (i := 890) (by decide +kernel) (by decide +kernel)
theorem fl9_149 : Cond.fieldLink "MaskedThrowsModel" 149 (fT9 61).1 (fT9 61).2.1 (fT9 61).2.2.1 ∈ gw := gw_t (i := 891) (by decide +kernel) (by decide +kernel)
theorem fl9_152 : Cond.fieldLink "MaskedThrowsModel" 152 (fT9 62).1 (fT9 62).2.1 (fT9 62).2.2.1 ∈ gw := gw_t (i := 892) (by decide +kernel) (by decide +kernel)
theorem fl9_350 : Cond.fieldLink "MaskedThrowsModel" 350 (fT9 63).1 (fT9 63).2.1 (fT9 63).2.2.1 ∈ gw := gw_t (i := 893) (by decide +kernel) (by decide +kernel)
theorem fl9_155 : Cond.fieldLink "MaskedThrowsModel" 155 (fT9 64).1 (fT9 64).2.1 (fT9 64).2.2.1 ∈ gw := gw_t (i := 894) (by decide +kernel) (by decide +kernel)
theorem fl9_158 : Cond.fieldLink "MaskedThrowsModel" 158 (fT9 65).1 (fT9 65).2.1 (fT9 65).2.2.1 ∈ gw := gw_t (i := 895) (by decide +kernel) (by decide +kernel)
theorem fl9_161 : Cond.fieldLink "MaskedThrowsModel" 161 (fT9 66).1 (fT9 66).2.1 (fT9 66).2.2.1 ∈ gw := gw_t (i := 896) (by decide +kernel) (by decide +kernel)
theorem fl9_164 : Cond.fieldLink "MaskedThrowsModel" 164 (fT9 67).1 (fT9 67).2.1 (fT9 67).2.2.1 ∈ gw := gw_t (i := 897) (by decide +kernel) (by decide +kernel)
theorem fl9_167 : Cond.fieldLink "MaskedThrowsModel" 167 (fT9 68).1 (fT9 68).2.1 (fT9 68).2.2.1 ∈ gw := gw_t (i := 898) (by decide +kernel) (by decide +kernel)
end
section
/-! a light logic over the kit's W: memory is a function from logical addresses (0 the script, 1 and 2 the two texts, 3 .. what was made, in order) -/
abbrev Ce : Type := (Nat × vp_A) ⊕ (Nat × List Value)
abbrev Me : Type := Nat → Ce
def tv (ad : Nat → Nat) : Value → Value
  | .ref i => .ref (ad i)
  | v => v
def tA (ad : Nat → Nat) : vp_A → vp_A
  | (n, .inl f) => (n, .inl f)
  | (n, .inr (.inl f)) => (n, .inr (.inl f))
  | (n, .inr (.inr (.inl f))) => (n, .inr (.inr (.inl f)))
  | (n, .inr (.inr (.inr (.inl f)))) => (n, .inr (.inr (.inr (.inl f))))
  | (n, .inr (.inr (.inr (.inr f)))) => (n, .inr (.inr (.inr (.inr (fun j => (f j).map ad)))))
def tc (dA : Nat → ClassId) (ad : Nat → Nat) : Ce → va_E
  | .inl (t, a) => .inl (dA t, tA ad a)
  | .inr (ci, fs) => .inr (ci, fs.map (tv ad))
/-- where the machine's things lie: classes and slots, array classes, addresses, the first new address, the heap at the start, the script -/
abbrev En : Type := va_G × (Nat → ClassId) × (Nat → Nat) × Nat × Heap × Nat × (Nat → Int32)
def eD (E : En) : va_G := E.1
def eA (E : En) : Nat → ClassId := E.2.1
def ea (E : En) : Nat → Nat := E.2.2.1
def eS (E : En) : Nat := E.2.2.2.1
def eG (E : En) : Heap := E.2.2.2.2.1
def eL (E : En) : Nat := E.2.2.2.2.2.1
def eX (E : En) : Nat → Int32 := E.2.2.2.2.2.2
def eOK (E : En) : Prop := (∀ i, 3 ≤ i → ea E i + 3 = eS E + i) ∧ (∀ i, i < 3 → ea E i < eS E) ∧ (eG E).size = eS E
def tyl (E : En) : List (ClassId × FieldType) := [(eA E 0, .int), (eA E 1, .long), (eA E 2, .boolean), (eA E 3, .byte), (eA E 4, .object "MaskedThrows$Program"), (eA E 5, .object "MaskedThrows$Fiber"), (eA E 6, .object "MaskedThrows$Body")]
def tyO (t : Nat) : FieldType := match t with
  | 0 => .int
  | 1 => .long
  | 2 => .boolean
  | 3 => .byte
  | 4 => .object "MaskedThrows$Program"
  | 5 => .object "MaskedThrows$Fiber"
  | _ => .object "MaskedThrows$Body"
theorem tyl_get (E : En) {t : Nat} (h : t < 7) : (tyl E)[t]? = some (eA E t, tyO t) := by
  match t, h with
  | 0, _ => rfl
  | 1, _ => rfl
  | 2, _ => rfl
  | 3, _ => rfl
  | 4, _ => rfl
  | 5, _ => rfl
  | 6, _ => rfl
def nsw : List Cond := tables_1.filter (fun w => match w with | .methodLinkNest .. => true | _ => false)
def eNew (E : En) (q : Nat) : Prop := eS E ≤ q
def sLen : List Nat := [114, 11]
def sTx (i : Nat) : String := if i = 0 then "note  if    else  while take  to    put   in    throw send  mask  hard  open  try   catch first use   last  within" else "=;(){}<#+-*"
def sByt : List (List Int32) := [(sTx 0).toList.map (fun ch => Int32.ofNat ch.toNat), (sTx 1).toList.map (fun ch => Int32.ofNat ch.toNat)]
/-- what stays true of the tables, the texts, the script -/
def eF (E : En) (U : State) : Prop := va_K (eD E) classes (tyl E) U ∧ (∀ w ∈ nsw, va_Nw w U) ∧
  (vk_R "MaskedThrows$Tokens" 54 (sTx 0) (ea E 1) U ∧ vk_R "MaskedThrows$Tokens" 62 (sTx 1) (ea E 2) U) ∧
  (∃ adV : Nat → Nat, vk_S 2 sLen sByt (fun i => ea E (i + 1)) adV (eNew E) U (eG E)) ∧ va_Z "java/lang/String" "COMPACT_STRINGS" "Z" (.int 1) (eNew E) U (eG E) ∧
  va_X (ea E 0) (eL E) (eX E) U (eG E) ∧ (va_AO "MaskedThrows$Program" U ∧ va_AO "MaskedThrows$Fiber" U ∧ va_AO "MaskedThrows$Body" U)
theorem eF_warm {E : En} {s U : State} (hW : s.WarmedH U.vm) (h : eF E s) : eF E U := by
  obtain ⟨h1, h2, ⟨h3, h4⟩, ⟨adV, h5⟩, h6, h7, h8, h9, h10⟩ := h
  refine ⟨va_K.moved hW.alike h1, fun w hw => ?_, ⟨vk_R.warm hW h3, vk_R.warm hW h4⟩, ⟨adV, vk_S.moved hW.alike h5⟩, va_Z.moved hW.alike h6, va_X.moved hW.alike h7, va_AO.moved hW.alike h8, va_AO.moved hW.alike h9, va_AO.moved hW.alike h10⟩
  have hn := (List.mem_filter.mp hw).2
  cases w <;> first | exact va_Nw.warmM hW (h2 _ hw) | cases hn
theorem eF_same {E : En} {s U : State} (hv : U.vm = s.vm) (h : eF E s) : eF E U := by
  have hA : s.vm.Alike U.vm := by rw [hv]; exact Vm.Alike.refl _
  obtain ⟨h1, h2, ⟨h3, h4⟩, ⟨adV, h5⟩, h6, h7, h8, h9, h10⟩ := h
  refine ⟨va_K.moved hA h1, fun w hw => ?_, ⟨vk_R.same hv h3, vk_R.same hv h4⟩, ⟨adV, vk_S.moved hA h5⟩, va_Z.moved hA h6, va_X.moved hA h7, va_AO.moved hA h8, va_AO.moved hA h9, va_AO.moved hA h10⟩
  have hn := (List.mem_filter.mp hw).2
  cases w <;> first | exact va_Nw.same rfl hv.symm (h2 _ hw) | cases hn
/-- the cells that were made, as the kit's list -/
def wl (E : En) (M : Me) (top : Nat) : va_W := (List.range (top - 3)).map (fun i => (ea E (i + 3), tc (eA E) (ea E) (M (i + 3))))
theorem wl_get {E : En} {M : Me} {top a : Nat} (h1 : 3 ≤ a) (h2 : a < top) : (wl E M top)[a - 3]? = some (ea E a, tc (eA E) (ea E) (M a)) := by
  have : a - 3 < top - 3 := by omega
  simp [wl, List.getElem?_map, List.getElem?_range this, Nat.sub_add_cancel h1]
theorem wl_at {E : En} {M : Me} {top k : Nat} {q : Nat × va_E} (h : (wl E M top)[k]? = some q) : k + 3 < top ∧ q = (ea E (k + 3), tc (eA E) (ea E) (M (k + 3))) := by
  unfold wl at h
  rw [List.getElem?_map] at h
  by_cases hk : k < top - 3
  · rw [List.getElem?_range hk] at h
    exact ⟨by omega, (Option.some.inj h).symm⟩
  · rw [List.getElem?_eq_none (by simpa using hk)] at h
    cases h
theorem wl_D {E : En} (hE : eOK E) (M : Me) (top : Nat) : va_D (eNew E) (wl E M top) := by
  refine ⟨fun i j p q hi hj hpq => ?_, fun k q hk => ?_⟩
  · obtain ⟨-, rfl⟩ := wl_at hi
    obtain ⟨-, rfl⟩ := wl_at hj
    have h1 := hE.1 (i + 3) (by omega)
    have h2 := hE.1 (j + 3) (by omega)
    dsimp only at hpq
    omega
  · obtain ⟨-, rfl⟩ := wl_at hk
    have h1 := hE.1 (k + 3) (by omega)
    show eS E ≤ ea E (k + 3)
    omega
theorem wl_set {E : En} {M : Me} {top a : Nat} (h1 : 3 ≤ a) {c : Ce} {e : va_E} (he : e = tc (eA E) (ea E) c) : (wl E M top).set (a - 3) (ea E a, e) = wl E (va_up M a c) top := by
  subst he
  apply List.ext_getElem?
  intro k
  by_cases hk : k = a - 3
  · subst hk
    by_cases hl : a < top
    · rw [wl_get h1 hl, List.getElem?_set_self (by simp [wl]; omega), va_up_self]
    · rw [List.getElem?_eq_none (by simp [wl]; omega), List.getElem?_eq_none (by simp [wl]; omega)]
  · rw [List.getElem?_set_ne (fun h => hk h.symm)]
    by_cases hl : k + 3 < top
    · have e1 := wl_get (E := E) (M := M) (a := k + 3) (by omega) hl
      have e2 := wl_get (E := E) (M := va_up M a c) (a := k + 3) (by omega) hl
      rw [Nat.add_sub_cancel] at e1 e2
      rw [e1, e2, va_up_ne _ _ (by omega)]
    · rw [List.getElem?_eq_none (by simp [wl]; omega), List.getElem?_eq_none (by simp [wl]; omega)]
def hp (E : En) (M : Me) (top : Nat) (H : Heap) : Prop := va_P (eD E) classes (wl E M top) H ∧ (3 ≤ top ∧ H.size + 3 = eS E + top) ∧ ∀ q, q < eS E → H[q]? = (eG E)[q]?
theorem hp_S {E : En} (hE : eOK E) {M : Me} {top : Nat} {H : Heap} (h : hp E M top H) {locs : List Loc} (hl : ∀ q ∈ locs, eS E ≤ q.base) : va_S (eNew E) (eG E) H locs :=
  ⟨by rw [hE.2.2]; have := h.2.1; omega, fun q h1 _ => h.2.2 q (by rw [← hE.2.2]; exact h1), hl⟩
/-- out of a row that writes -/
theorem hp_set {E : En} (hE : eOK E) {M : Me} {top a : Nat} {H H1 : Heap} {locs locs1 : List Loc} {e : va_E} {c : Ce} (h1 : 3 ≤ a) (h2 : a < top) (h : hp E M top H) (he : e = tc (eA E) (ea E) c) (hP : va_P (eD E) classes ((wl E M top).set (a - 3) (ea E a, e)) H1) (hS : va_S (eNew E) (eG E) H1 locs1) (hz : H1.size = H.size) : hp E (va_up M a c) top H1 ∧ ∀ q ∈ locs1, eS E ≤ q.base := by
  rw [wl_set h1 he] at hP
  exact ⟨⟨hP, ⟨h.2.1.1, by rw [hz]; exact h.2.1.2⟩, fun q hq => hS.2.1 q (by rw [hE.2.2]; exact hq) (fun z => by have z1 : eS E ≤ q := z; omega)⟩, hS.2.2⟩
theorem tv_cat (ad : Nat → Nat) (v : Value) : (tv ad v).category = v.category := by cases v <;> rfl
def tvp (ad : Nat → Nat) (q : Nat × Value) : Nat × Value := (q.1, tv ad q.2)
def gl (lv : List (Nat × Value)) (i : Nat) : Option Value := match lv with
  | [] => none
  | q :: l => if q.1 = i then some q.2 else gl l i
theorem gl_mem {lv : List (Nat × Value)} {i : Nat} {v : Value} (h : gl lv i = some v) : (i, v) ∈ lv := by
  induction lv with
  | nil => cases h
  | cons q l ih =>
    unfold gl at h
    by_cases hq : q.1 = i
    · rw [if_pos hq] at h
      have : q = (i, v) := Prod.ext hq (Option.some.inj h)
      rw [this]; exact List.mem_cons_self
    · rw [if_neg hq] at h
      exact List.mem_cons_of_mem _ (ih h)
theorem lh_at {ad : Nat → Nat} {ls : Array Slot} {nL : Nat} {lv : List (Nat × Value)} (h : lv_has ls nL (lv.map (tvp ad))) {i : Nat} {v : Value} (hk : gl lv i = some v) : ls[i]? = some (.val (tv ad v)) :=
  h.2.2 (i, tv ad v) (List.mem_map.mpr ⟨(i, v), gl_mem hk, rfl⟩)
/-- a store of one word, of two words -/
def st1 (lv : List (Nat × Value)) (i : Nat) (v : Value) : List (Nat × Value) := (i, v) :: lv.filter (fun q => !(q.1 == i) && !(q.1 + 1 == i && q.2.category == 2))
def st2 (lv : List (Nat × Value)) (i : Nat) (v : Value) : List (Nat × Value) := (i, v) :: lv.filter (fun q => !(q.1 == i) && (!(q.1 == i + 1) && !(q.1 + 1 == i && q.2.category == 2)))
theorem st1_map (ad : Nat → Nat) (lv : List (Nat × Value)) (i : Nat) (v : Value) : (i, tv ad v) :: (lv.map (tvp ad)).filter (fun q => !(q.1 == i) && !(q.1 + 1 == i && q.2.category == 2)) = (st1 lv i v).map (tvp ad) := by
  rw [st1, List.map_cons, List.filter_map]
  congr 2
  apply List.filter_congr
  intro q _
  simp only [Function.comp, tvp, tv_cat]
theorem st2_map (ad : Nat → Nat) (lv : List (Nat × Value)) (i : Nat) (v : Value) : (i, tv ad v) :: (lv.map (tvp ad)).filter (fun q => !(q.1 == i) && (!(q.1 == i + 1) && !(q.1 + 1 == i && q.2.category == 2))) = (st2 lv i v).map (tvp ad) := by
  rw [st2, List.map_cons, List.filter_map]
  congr 2
  apply List.filter_congr
  intro q _
  simp only [Function.comp, tvp, tv_cat]
def Cx (E : En) (j : Nat) (p : Program) (s : State) (m : MethodId) (args : Array Value) (meth : Method) (c : Code) : Prop :=
  eOK E ∧ p.tables.exec = Jvm.exec ∧ c.code = mB j ∧ meth.sig.returnType = mR j ∧ c.maxLocals = mL j ∧ s.vm.findClass (mY j).cls = some m.cls ∧ (∀ w ∈ gw, w.before args s = true) ∧ meth.locks = false ∧ ((mY j).name = "<init>" → meth.name = "<init>") ∧ eF E s ∧ eS E ≤ s.heap.size
abbrev Zt : Type := En → Array Value → State → List Frame → State → Prop
/-- at pc of method j, with locals lv, stack st, memory M: the machine comes to Z -/
def Wp (R : Room) (j : Nat) (Z : Zt) (k n pc : Nat) (lv : List (Nat × Value)) (st : List Value) (M : Me) (top : Nat) : Prop :=
  ∀ (l : Launch) (E : En) (p : Program) (e : Env) (s : State) (m : MethodId) (args : Array Value) (below : List Frame) (meth : Method) (c : Code), Cx E j p s m args meth c →
    ∀ (H : Heap) (locs : List Loc), (∀ q ∈ locs, eS E ≤ q.base) → hp E M top H → ∀ ls : Array Slot, lv_has ls (mL j) (lv.map (tvp (ea E))) →
      W p l e R s m args below meth c H locs k n (Z E args s below) (F0 m pc ls (st.map (tv (ea E))))
def cPc (E : En) (av : List Value) (M : Me) (top : Nat) : Array Value → State → Prop := fun v U => v = (av.map (tv (ea E))).toArray ∧ hp E M top U.heap ∧ eF E U
abbrev Po : Type := Option Value → Me → Nat → Prop
def cQc (E : En) (post : Po) : Array Value → State → Outcome → State → Prop := fun _ _ oc t => ∃ (r : Option Value) (M1 : Me) (top1 : Nat), oc = .returned (r.map (tv (ea E))) ∧ post r M1 top1 ∧ hp E M1 top1 t.heap
abbrev rmd (d mc ms : Nat) : Room := { frames := d, cells := mc, slots := ms, locals := 40 * d }
/-- method j with these arguments in memory M: it returns, and post -/
def Ct (d mc ms j : Nat) (av : List Value) (M : Me) (top : Nat) (post : Po) : Prop :=
  ∀ (l : Launch) (E : En), eOK E → Met l (mY j) (mW j) (rmd d mc ms) (cPc E av M top) (cQc E post) mc ms (eNew E)
def mZ (post : Po) (mc ms : Nat) : Zt := fun E args s below => MQ below (cQc E post) args s mc ms (eNew E)
/-- a method's contract, out of its walk -/
theorem ct_of {d mc ms j : Nat} {av : List Value} {M : Me} {top : Nat} {post : Po} (hy : plainName (mY j).cls = true) (hl : (lg_sl av).length ≤ mL j) (h : Wp (rmd d mc ms) j (mZ post mc ms) 0 0 0 (lv_args 0 av) [] M top) : Ct d mc ms j av M top post := by
  intro l E hE
  refine Met.ofW (cc := mB j) (maxL := mL j) (ret := mR j) hy rfl ?_
  intro p e s m args below meth c s₁ B hml hv
  obtain ⟨rfl, hH, hF⟩ := hv
  have hts := atoms_spec (ws := mW j) B.pre
  have hc : Cx E j p s m (av.map (tv (ea E))).toArray meth c := ⟨hE, B.exec, B.bytes, B.returns, hml, findClass_of_methodNamed B.named, fun w hw => hts w (List.mem_cons_of_mem _ hw), B.notSynchronized, fun hn => (name_of_methodNamed B.named B.method).1.trans hn, hF, by have := hH.2.1; omega⟩
  have hcat : ∀ vs : List Value, (lg_sl (vs.map (tv (ea E)))).length = (lg_sl vs).length := by
    intro vs
    induction vs with
    | nil => rfl
    | cons v vs ih =>
      simp only [lg_sl, List.map_cons, List.flatMap_cons, List.length_append] at ih ⊢
      rw [ih, tv_cat]
      by_cases hv : v.category = 2 <;> simp [hv]
  have hlv := lv_entry (av.map (tv (ea E))) (n := mL j) (by rw [hcat]; exact hl)
  rw [lg_entry_eq]
  generalize (lg_sl (av.map (tv (ea E))) ++ List.replicate (mL j - (lg_sl (av.map (tv (ea E)))).length) Slot.unset).toArray = ls at hlv ⊢
  have hma : ∀ (vs : List Value) (i : Nat), lv_args i (vs.map (tv (ea E))) = (lv_args i vs).map (tvp (ea E)) := by
    intro vs
    induction vs with
    | nil => intro i; rfl
    | cons v vs ih =>
      intro i
      simp only [List.map_cons, lv_args, tv_cat, ih, tvp]
  rw [hma] at hlv
  exact h l E p e s m _ below meth c hc s.heap [] (fun q hq => by cases hq) hH ls hlv
end
section
/-! a row an instruction -/
section XR
variable {R : Room} {j : Nat} {Z : Zt} {k n pc : Nat} {lv : List (Nat × Value)} {st : List Value} {M : Me} {top : Nat}
theorem x_iconst {i : Int} {v : Int32} (hd : decode (mB j) pc = .ok (.iconst i, 1)) (hv0 : Int32.ofInt i = v) (kk : Wp R j Z k n (pc + 1) lv (.int v :: st) M top) : Wp R j Z k n pc lv st M top := by
  intro l E p e s m args below meth c C H locs hl hH ls hv
  exact lv_iconst C.2.1 C.2.2.1 hd hv0 (kk l E p e s m args below meth c C H locs hl hH ls hv)
theorem x_bipush {i : Int} {v : Int32} (hd : decode (mB j) pc = .ok (.bipush i, 2)) (hv0 : (Int8.ofInt i).toInt32 = v) (kk : Wp R j Z k n (pc + 2) lv (.int v :: st) M top) : Wp R j Z k n pc lv st M top := by
  intro l E p e s m args below meth c C H locs hl hH ls hv
  exact lv_bipush C.2.1 C.2.2.1 hd hv0 (kk l E p e s m args below meth c C H locs hl hH ls hv)
theorem x_sipush {i : Int} {v : Int32} (hd : decode (mB j) pc = .ok (.sipush i, 3)) (hv0 : (Int16.ofInt i).toInt32 = v) (kk : Wp R j Z k n (pc + 3) lv (.int v :: st) M top) : Wp R j Z k n pc lv st M top := by
  intro l E p e s m args below meth c C H locs hl hH ls hv
  exact lv_sipush C.2.1 C.2.2.1 hd hv0 (kk l E p e s m args below meth c C H locs hl hH ls hv)
theorem x_lconst {i : Fin 2} {v : Int64} (hd : decode (mB j) pc = .ok (.lconst i, 1)) (hv0 : Int64.ofNat (i : Nat) = v) (kk : Wp R j Z k n (pc + 1) lv (.long v :: st) M top) : Wp R j Z k n pc lv st M top := by
  intro l E p e s m args below meth c C H locs hl hH ls hv
  exact lv_lconst C.2.1 C.2.2.1 hd hv0 (kk l E p e s m args below meth c C H locs hl hH ls hv)
theorem x_iload_n {i : Fin 4} {v : Int32} (hd : decode (mB j) pc = .ok (.iload_n i, 1)) (hg : gl lv (i : Nat) = some (.int v)) (kk : Wp R j Z k n (pc + 1) lv (.int v :: st) M top) : Wp R j Z k n pc lv st M top := by
  intro l E p e s m args below meth c C H locs hl hH ls hv
  exact lv_iload_n C.2.1 C.2.2.1 hd rfl (lh_at hv hg) (kk l E p e s m args below meth c C H locs hl hH ls hv)
theorem x_iload {i : Nat} {v : Int32} (hd : decode (mB j) pc = .ok (.iload i, 2)) (hg : gl lv i = some (.int v)) (kk : Wp R j Z k n (pc + 2) lv (.int v :: st) M top) : Wp R j Z k n pc lv st M top := by
  intro l E p e s m args below meth c C H locs hl hH ls hv
  exact lv_iload C.2.1 C.2.2.1 hd (lh_at hv hg) (kk l E p e s m args below meth c C H locs hl hH ls hv)
theorem x_istore_n {i : Fin 4} {v : Int32} (hd : decode (mB j) pc = .ok (.istore_n i, 1)) (hb : (i : Nat) < mL j) (kk : Wp R j Z k n (pc + 1) (st1 lv (i : Nat) (.int v)) st M top) : Wp R j Z k n pc lv (.int v :: st) M top := by
  intro l E p e s m args below meth c C H locs hl hH ls hv
  exact lv_istore_n C.2.1 C.2.2.1 hd rfl hv hb (st1_map _ _ _ (.int v)) (fun ls hv => kk l E p e s m args below meth c C H locs hl hH ls hv)
theorem x_istore {i : Nat} {v : Int32} (hd : decode (mB j) pc = .ok (.istore i, 2)) (hb : (i : Nat) < mL j) (kk : Wp R j Z k n (pc + 2) (st1 lv i (.int v)) st M top) : Wp R j Z k n pc lv (.int v :: st) M top := by
  intro l E p e s m args below meth c C H locs hl hH ls hv
  exact lv_istore C.2.1 C.2.2.1 hd hv hb (st1_map _ _ _ (.int v)) (fun ls hv => kk l E p e s m args below meth c C H locs hl hH ls hv)
theorem x_lload_n {i : Fin 4} {v : Int64} (hd : decode (mB j) pc = .ok (.lload_n i, 1)) (hg : gl lv (i : Nat) = some (.long v)) (kk : Wp R j Z k n (pc + 1) lv (.long v :: st) M top) : Wp R j Z k n pc lv st M top := by
  intro l E p e s m args below meth c C H locs hl hH ls hv
  exact lv_lload_n C.2.1 C.2.2.1 hd rfl (lh_at hv hg) (kk l E p e s m args below meth c C H locs hl hH ls hv)
theorem x_lload {i : Nat} {v : Int64} (hd : decode (mB j) pc = .ok (.lload i, 2)) (hg : gl lv i = some (.long v)) (kk : Wp R j Z k n (pc + 2) lv (.long v :: st) M top) : Wp R j Z k n pc lv st M top := by
  intro l E p e s m args below meth c C H locs hl hH ls hv
  exact lv_lload C.2.1 C.2.2.1 hd (lh_at hv hg) (kk l E p e s m args below meth c C H locs hl hH ls hv)
theorem x_lstore_n {i : Fin 4} {v : Int64} (hd : decode (mB j) pc = .ok (.lstore_n i, 1)) (hb : (i : Nat) + 1 < mL j) (kk : Wp R j Z k n (pc + 1) (st2 lv (i : Nat) (.long v)) st M top) : Wp R j Z k n pc lv (.long v :: st) M top := by
  intro l E p e s m args below meth c C H locs hl hH ls hv
  exact lv_lstore_n C.2.1 C.2.2.1 hd rfl hv hb (st2_map _ _ _ (.long v)) (fun ls hv => kk l E p e s m args below meth c C H locs hl hH ls hv)
theorem x_lstore {i : Nat} {v : Int64} (hd : decode (mB j) pc = .ok (.lstore i, 2)) (hb : (i : Nat) + 1 < mL j) (kk : Wp R j Z k n (pc + 2) (st2 lv i (.long v)) st M top) : Wp R j Z k n pc lv (.long v :: st) M top := by
  intro l E p e s m args below meth c C H locs hl hH ls hv
  exact lv_lstore C.2.1 C.2.2.1 hd hv hb (st2_map _ _ _ (.long v)) (fun ls hv => kk l E p e s m args below meth c C H locs hl hH ls hv)
theorem x_aload_n {i : Fin 4} {v : Nat} (hd : decode (mB j) pc = .ok (.aload_n i, 1)) (hg : gl lv (i : Nat) = some (.ref v)) (kk : Wp R j Z k n (pc + 1) lv (.ref v :: st) M top) : Wp R j Z k n pc lv st M top := by
  intro l E p e s m args below meth c C H locs hl hH ls hv
  exact lv_aload_n C.2.1 C.2.2.1 hd rfl (lh_at hv hg) (kk l E p e s m args below meth c C H locs hl hH ls hv)
theorem x_aload {i : Nat} {v : Nat} (hd : decode (mB j) pc = .ok (.aload i, 2)) (hg : gl lv i = some (.ref v)) (kk : Wp R j Z k n (pc + 2) lv (.ref v :: st) M top) : Wp R j Z k n pc lv st M top := by
  intro l E p e s m args below meth c C H locs hl hH ls hv
  exact lv_aload C.2.1 C.2.2.1 hd (lh_at hv hg) (kk l E p e s m args below meth c C H locs hl hH ls hv)
theorem x_astore_n {i : Fin 4} {v : Nat} (hd : decode (mB j) pc = .ok (.astore_n i, 1)) (hb : (i : Nat) < mL j) (kk : Wp R j Z k n (pc + 1) (st1 lv (i : Nat) (.ref v)) st M top) : Wp R j Z k n pc lv (.ref v :: st) M top := by
  intro l E p e s m args below meth c C H locs hl hH ls hv
  exact lv_astore_n C.2.1 C.2.2.1 hd rfl hv hb (st1_map _ _ _ (.ref v)) (fun ls hv => kk l E p e s m args below meth c C H locs hl hH ls hv)
theorem x_astore {i : Nat} {v : Nat} (hd : decode (mB j) pc = .ok (.astore i, 2)) (hb : (i : Nat) < mL j) (kk : Wp R j Z k n (pc + 2) (st1 lv i (.ref v)) st M top) : Wp R j Z k n pc lv (.ref v :: st) M top := by
  intro l E p e s m args below meth c C H locs hl hH ls hv
  exact lv_astore C.2.1 C.2.2.1 hd hv hb (st1_map _ _ _ (.ref v)) (fun ls hv => kk l E p e s m args below meth c C H locs hl hH ls hv)
theorem x_iinc {i : Nat} {z : Int} {v w : Int32} (hd : decode (mB j) pc = .ok (.iinc i z, 3)) (hb : i < mL j) (hg : gl lv i = some (.int v)) (hw : v + Int32.ofInt z = w) (kk : Wp R j Z k n (pc + 3) (st1 lv i (.int w)) st M top) : Wp R j Z k n pc lv st M top := by
  intro l E p e s m args below meth c C H locs hl hH ls hv
  obtain ⟨q, hq⟩ := List.getElem?_of_mem (List.mem_map.mpr ⟨(i, Value.int v), gl_mem hg, rfl⟩ : tvp (ea E) (i, .int v) ∈ lv.map (tvp (ea E)))
  exact lv_iinc C.2.1 C.2.2.1 hd hv (k := q) hq hw hb (st1_map _ _ _ (.int w)) (fun ls hv => kk l E p e s m args below meth c C H locs hl hH ls hv)
theorem x_iadd {x y : Int32} (hd : decode (mB j) pc = .ok (.iadd, 1))  (kk : Wp R j Z k n (pc + 1) lv (.int (x + y) :: st) M top) : Wp R j Z k n pc lv (.int y :: .int x :: st) M top := by
  intro l E p e s m args below meth c C H locs hl hH ls hv
  exact lv_iadd C.2.1 C.2.2.1 hd  (kk l E p e s m args below meth c C H locs hl hH ls hv)
theorem x_ladd {x y : Int64} (hd : decode (mB j) pc = .ok (.ladd, 1))  (kk : Wp R j Z k n (pc + 1) lv (.long (x + y) :: st) M top) : Wp R j Z k n pc lv (.long y :: .long x :: st) M top := by
  intro l E p e s m args below meth c C H locs hl hH ls hv
  exact lv_ladd C.2.1 C.2.2.1 hd  (kk l E p e s m args below meth c C H locs hl hH ls hv)
theorem x_isub {x y : Int32} (hd : decode (mB j) pc = .ok (.isub, 1))  (kk : Wp R j Z k n (pc + 1) lv (.int (x - y) :: st) M top) : Wp R j Z k n pc lv (.int y :: .int x :: st) M top := by
  intro l E p e s m args below meth c C H locs hl hH ls hv
  exact lv_isub C.2.1 C.2.2.1 hd  (kk l E p e s m args below meth c C H locs hl hH ls hv)
theorem x_lsub {x y : Int64} (hd : decode (mB j) pc = .ok (.lsub, 1))  (kk : Wp R j Z k n (pc + 1) lv (.long (x - y) :: st) M top) : Wp R j Z k n pc lv (.long y :: .long x :: st) M top := by
  intro l E p e s m args below meth c C H locs hl hH ls hv
  exact lv_lsub C.2.1 C.2.2.1 hd  (kk l E p e s m args below meth c C H locs hl hH ls hv)
theorem x_imul {x y : Int32} (hd : decode (mB j) pc = .ok (.imul, 1))  (kk : Wp R j Z k n (pc + 1) lv (.int (x * y) :: st) M top) : Wp R j Z k n pc lv (.int y :: .int x :: st) M top := by
  intro l E p e s m args below meth c C H locs hl hH ls hv
  exact lv_imul C.2.1 C.2.2.1 hd  (kk l E p e s m args below meth c C H locs hl hH ls hv)
theorem x_lmul {x y : Int64} (hd : decode (mB j) pc = .ok (.lmul, 1))  (kk : Wp R j Z k n (pc + 1) lv (.long (x * y) :: st) M top) : Wp R j Z k n pc lv (.long y :: .long x :: st) M top := by
  intro l E p e s m args below meth c C H locs hl hH ls hv
  exact lv_lmul C.2.1 C.2.2.1 hd  (kk l E p e s m args below meth c C H locs hl hH ls hv)
theorem x_iand {x y : Int32} (hd : decode (mB j) pc = .ok (.iand, 1))  (kk : Wp R j Z k n (pc + 1) lv (.int (x &&& y) :: st) M top) : Wp R j Z k n pc lv (.int y :: .int x :: st) M top := by
  intro l E p e s m args below meth c C H locs hl hH ls hv
  exact lv_iand C.2.1 C.2.2.1 hd  (kk l E p e s m args below meth c C H locs hl hH ls hv)
theorem x_land {x y : Int64} (hd : decode (mB j) pc = .ok (.land, 1))  (kk : Wp R j Z k n (pc + 1) lv (.long (x &&& y) :: st) M top) : Wp R j Z k n pc lv (.long y :: .long x :: st) M top := by
  intro l E p e s m args below meth c C H locs hl hH ls hv
  exact lv_land C.2.1 C.2.2.1 hd  (kk l E p e s m args below meth c C H locs hl hH ls hv)
theorem x_lor {x y : Int64} (hd : decode (mB j) pc = .ok (.lor, 1))  (kk : Wp R j Z k n (pc + 1) lv (.long (x ||| y) :: st) M top) : Wp R j Z k n pc lv (.long y :: .long x :: st) M top := by
  intro l E p e s m args below meth c C H locs hl hH ls hv
  exact lv_lor C.2.1 C.2.2.1 hd  (kk l E p e s m args below meth c C H locs hl hH ls hv)
theorem x_idiv {x y : Int32} (hd : decode (mB j) pc = .ok (.idiv, 1)) (hz : ¬ y = 0) (kk : Wp R j Z k n (pc + 1) lv (.int (x / y) :: st) M top) : Wp R j Z k n pc lv (.int y :: .int x :: st) M top := by
  intro l E p e s m args below meth c C H locs hl hH ls hv
  exact lv_idiv C.2.1 C.2.2.1 hd hz (kk l E p e s m args below meth c C H locs hl hH ls hv)
theorem x_irem {x y : Int32} (hd : decode (mB j) pc = .ok (.irem, 1)) (hz : ¬ y = 0) (kk : Wp R j Z k n (pc + 1) lv (.int (x - x / y * y) :: st) M top) : Wp R j Z k n pc lv (.int y :: .int x :: st) M top := by
  intro l E p e s m args below meth c C H locs hl hH ls hv
  exact lv_irem C.2.1 C.2.2.1 hd hz (kk l E p e s m args below meth c C H locs hl hH ls hv)
theorem x_ishl {x y : Int32} (hd : decode (mB j) pc = .ok (.ishl, 1))  (kk : Wp R j Z k n (pc + 1) lv (.int (x <<< (y &&& 31)) :: st) M top) : Wp R j Z k n pc lv (.int y :: .int x :: st) M top := by
  intro l E p e s m args below meth c C H locs hl hH ls hv
  exact lv_ishl C.2.1 C.2.2.1 hd  (kk l E p e s m args below meth c C H locs hl hH ls hv)
theorem x_ishr {x y : Int32} (hd : decode (mB j) pc = .ok (.ishr, 1))  (kk : Wp R j Z k n (pc + 1) lv (.int (x >>> (y &&& 31)) :: st) M top) : Wp R j Z k n pc lv (.int y :: .int x :: st) M top := by
  intro l E p e s m args below meth c C H locs hl hH ls hv
  exact lv_ishr C.2.1 C.2.2.1 hd  (kk l E p e s m args below meth c C H locs hl hH ls hv)
theorem x_iushr {x y : Int32} (hd : decode (mB j) pc = .ok (.iushr, 1))  (kk : Wp R j Z k n (pc + 1) lv (.int (x.toUInt32 >>> (y.toUInt32 &&& Int32.toUInt32 31)).toInt32 :: st) M top) : Wp R j Z k n pc lv (.int y :: .int x :: st) M top := by
  intro l E p e s m args below meth c C H locs hl hH ls hv
  exact lv_iushr C.2.1 C.2.2.1 hd rfl (kk l E p e s m args below meth c C H locs hl hH ls hv)
theorem x_lushr {x : Int64} {y : Int32} (hd : decode (mB j) pc = .ok (.lushr, 1))  (kk : Wp R j Z k n (pc + 1) lv (.long (x.toUInt64 >>> (y.toInt64.toUInt64 &&& Int64.toUInt64 63)).toInt64 :: st) M top) : Wp R j Z k n pc lv (.int y :: .long x :: st) M top := by
  intro l E p e s m args below meth c C H locs hl hH ls hv
  exact lv_lushr C.2.1 C.2.2.1 hd rfl (kk l E p e s m args below meth c C H locs hl hH ls hv)
theorem x_lshl {x : Int64} {y : Int32} (hd : decode (mB j) pc = .ok (.lshl, 1))  (kk : Wp R j Z k n (pc + 1) lv (.long (x <<< (y.toInt64 &&& 63)) :: st) M top) : Wp R j Z k n pc lv (.int y :: .long x :: st) M top := by
  intro l E p e s m args below meth c C H locs hl hH ls hv
  exact lv_lshl C.2.1 C.2.2.1 hd rfl (kk l E p e s m args below meth c C H locs hl hH ls hv)
theorem x_lneg {x : Int64} (hd : decode (mB j) pc = .ok (.lneg, 1))  (kk : Wp R j Z k n (pc + 1) lv (.long (-x) :: st) M top) : Wp R j Z k n pc lv (.long x :: st) M top := by
  intro l E p e s m args below meth c C H locs hl hH ls hv
  exact lv_lneg C.2.1 C.2.2.1 hd  (kk l E p e s m args below meth c C H locs hl hH ls hv)
theorem x_i2l {x : Int32} (hd : decode (mB j) pc = .ok (.i2l, 1))  (kk : Wp R j Z k n (pc + 1) lv (.long x.toInt64 :: st) M top) : Wp R j Z k n pc lv (.int x :: st) M top := by
  intro l E p e s m args below meth c C H locs hl hH ls hv
  exact lv_i2l C.2.1 C.2.2.1 hd rfl (kk l E p e s m args below meth c C H locs hl hH ls hv)
theorem x_l2i {x : Int64} (hd : decode (mB j) pc = .ok (.l2i, 1))  (kk : Wp R j Z k n (pc + 1) lv (.int x.toInt32 :: st) M top) : Wp R j Z k n pc lv (.long x :: st) M top := by
  intro l E p e s m args below meth c C H locs hl hH ls hv
  exact lv_l2i C.2.1 C.2.2.1 hd rfl (kk l E p e s m args below meth c C H locs hl hH ls hv)
theorem x_i2b {x : Int32} (hd : decode (mB j) pc = .ok (.i2b, 1))  (kk : Wp R j Z k n (pc + 1) lv (.int x.toInt8.toInt32 :: st) M top) : Wp R j Z k n pc lv (.int x :: st) M top := by
  intro l E p e s m args below meth c C H locs hl hH ls hv
  exact lv_i2b C.2.1 C.2.2.1 hd rfl (kk l E p e s m args below meth c C H locs hl hH ls hv)
theorem x_lcmp {x y : Int64} (hd : decode (mB j) pc = .ok (.lcmp, 1))  (kk : Wp R j Z k n (pc + 1) lv (.int (lg_cmp x y) :: st) M top) : Wp R j Z k n pc lv (.long y :: .long x :: st) M top := by
  intro l E p e s m args below meth c C H locs hl hH ls hv
  exact W.lcmp C.2.1 C.2.2.1 hd  (kk l E p e s m args below meth c C H locs hl hH ls hv)
theorem x_dup {v : Value} (hd : decode (mB j) pc = .ok (.dup, 1)) (hc : v.category = 1) (kk : Wp R j Z k n (pc + 1) lv (v :: v :: st) M top) : Wp R j Z k n pc lv (v :: st) M top := by
  intro l E p e s m args below meth c C H locs hl hH ls hv
  exact lv_dup C.2.1 C.2.2.1 hd ((tv_cat _ _).trans hc) (kk l E p e s m args below meth c C H locs hl hH ls hv)
theorem x_pop {v : Value} (hd : decode (mB j) pc = .ok (.pop, 1)) (hc : v.category = 1) (kk : Wp R j Z k n (pc + 1) lv st M top) : Wp R j Z k n pc lv (v :: st) M top := by
  intro l E p e s m args below meth c C H locs hl hH ls hv
  exact lv_pop C.2.1 C.2.2.1 hd ((tv_cat _ _).trans hc) (kk l E p e s m args below meth c C H locs hl hH ls hv)
theorem x_dup2 {v w : Value} (hd : decode (mB j) pc = .ok (.dup2, 1)) (hc : v.category = 1) (hc2 : w.category = 1) (kk : Wp R j Z k n (pc + 1) lv (v :: w :: v :: w :: st) M top) : Wp R j Z k n pc lv (v :: w :: st) M top := by
  intro l E p e s m args below meth c C H locs hl hH ls hv
  exact lv_dup2_11 C.2.1 C.2.2.1 hd ((tv_cat _ _).trans hc) ((tv_cat _ _).trans hc2) (kk l E p e s m args below meth c C H locs hl hH ls hv)
theorem x_if_eq {x : Int32} {off : Int} {tgt : Nat} (hd : decode (mB j) pc = .ok (.ifCond .eq off, 3)) (ht : (pc : Int) + off = (tgt : Int)) (kt : x = 0 → Wp R j Z k n tgt lv st M top) (kf : ¬ x = 0 → Wp R j Z k n (pc + 3) lv st M top) : Wp R j Z k n pc lv (.int x :: st) M top := by
  intro l E p e s m args below meth c C H locs hl hH ls hv
  exact lv_if_eq C.2.1 C.2.2.1 hd ht (fun h => kt h l E p e s m args below meth c C H locs hl hH ls hv) (fun h => kf h l E p e s m args below meth c C H locs hl hH ls hv)
theorem x_icmp_eq {x y : Int32} {off : Int} {tgt : Nat} (hd : decode (mB j) pc = .ok (.if_icmp .eq off, 3)) (ht : (pc : Int) + off = (tgt : Int)) (kt : x = y → Wp R j Z k n tgt lv st M top) (kf : ¬ x = y → Wp R j Z k n (pc + 3) lv st M top) : Wp R j Z k n pc lv (.int y :: .int x :: st) M top := by
  intro l E p e s m args below meth c C H locs hl hH ls hv
  exact lv_icmp_eq C.2.1 C.2.2.1 hd ht (fun h => kt h l E p e s m args below meth c C H locs hl hH ls hv) (fun h => kf h l E p e s m args below meth c C H locs hl hH ls hv)
theorem x_if_ne {x : Int32} {off : Int} {tgt : Nat} (hd : decode (mB j) pc = .ok (.ifCond .ne off, 3)) (ht : (pc : Int) + off = (tgt : Int)) (kt : ¬ x = 0 → Wp R j Z k n tgt lv st M top) (kf : x = 0 → Wp R j Z k n (pc + 3) lv st M top) : Wp R j Z k n pc lv (.int x :: st) M top := by
  intro l E p e s m args below meth c C H locs hl hH ls hv
  exact lv_if_ne C.2.1 C.2.2.1 hd ht (fun h => kt h l E p e s m args below meth c C H locs hl hH ls hv) (fun h => kf h l E p e s m args below meth c C H locs hl hH ls hv)
theorem x_icmp_ne {x y : Int32} {off : Int} {tgt : Nat} (hd : decode (mB j) pc = .ok (.if_icmp .ne off, 3)) (ht : (pc : Int) + off = (tgt : Int)) (kt : ¬ x = y → Wp R j Z k n tgt lv st M top) (kf : x = y → Wp R j Z k n (pc + 3) lv st M top) : Wp R j Z k n pc lv (.int y :: .int x :: st) M top := by
  intro l E p e s m args below meth c C H locs hl hH ls hv
  exact lv_icmp_ne C.2.1 C.2.2.1 hd ht (fun h => kt h l E p e s m args below meth c C H locs hl hH ls hv) (fun h => kf h l E p e s m args below meth c C H locs hl hH ls hv)
theorem x_if_lt {x : Int32} {off : Int} {tgt : Nat} (hd : decode (mB j) pc = .ok (.ifCond .lt off, 3)) (ht : (pc : Int) + off = (tgt : Int)) (kt : x < 0 → Wp R j Z k n tgt lv st M top) (kf : ¬ x < 0 → Wp R j Z k n (pc + 3) lv st M top) : Wp R j Z k n pc lv (.int x :: st) M top := by
  intro l E p e s m args below meth c C H locs hl hH ls hv
  exact lv_if_lt C.2.1 C.2.2.1 hd ht (fun h => kt h l E p e s m args below meth c C H locs hl hH ls hv) (fun h => kf h l E p e s m args below meth c C H locs hl hH ls hv)
theorem x_icmp_lt {x y : Int32} {off : Int} {tgt : Nat} (hd : decode (mB j) pc = .ok (.if_icmp .lt off, 3)) (ht : (pc : Int) + off = (tgt : Int)) (kt : x < y → Wp R j Z k n tgt lv st M top) (kf : ¬ x < y → Wp R j Z k n (pc + 3) lv st M top) : Wp R j Z k n pc lv (.int y :: .int x :: st) M top := by
  intro l E p e s m args below meth c C H locs hl hH ls hv
  exact lv_icmp_lt C.2.1 C.2.2.1 hd ht (fun h => kt h l E p e s m args below meth c C H locs hl hH ls hv) (fun h => kf h l E p e s m args below meth c C H locs hl hH ls hv)
theorem x_if_ge {x : Int32} {off : Int} {tgt : Nat} (hd : decode (mB j) pc = .ok (.ifCond .ge off, 3)) (ht : (pc : Int) + off = (tgt : Int)) (kt : 0 ≤ x → Wp R j Z k n tgt lv st M top) (kf : ¬ 0 ≤ x → Wp R j Z k n (pc + 3) lv st M top) : Wp R j Z k n pc lv (.int x :: st) M top := by
  intro l E p e s m args below meth c C H locs hl hH ls hv
  exact lv_if_ge C.2.1 C.2.2.1 hd ht (fun h => kt h l E p e s m args below meth c C H locs hl hH ls hv) (fun h => kf h l E p e s m args below meth c C H locs hl hH ls hv)
theorem x_icmp_ge {x y : Int32} {off : Int} {tgt : Nat} (hd : decode (mB j) pc = .ok (.if_icmp .ge off, 3)) (ht : (pc : Int) + off = (tgt : Int)) (kt : y ≤ x → Wp R j Z k n tgt lv st M top) (kf : ¬ y ≤ x → Wp R j Z k n (pc + 3) lv st M top) : Wp R j Z k n pc lv (.int y :: .int x :: st) M top := by
  intro l E p e s m args below meth c C H locs hl hH ls hv
  exact lv_icmp_ge C.2.1 C.2.2.1 hd ht (fun h => kt h l E p e s m args below meth c C H locs hl hH ls hv) (fun h => kf h l E p e s m args below meth c C H locs hl hH ls hv)
theorem x_if_gt {x : Int32} {off : Int} {tgt : Nat} (hd : decode (mB j) pc = .ok (.ifCond .gt off, 3)) (ht : (pc : Int) + off = (tgt : Int)) (kt : 0 < x → Wp R j Z k n tgt lv st M top) (kf : ¬ 0 < x → Wp R j Z k n (pc + 3) lv st M top) : Wp R j Z k n pc lv (.int x :: st) M top := by
  intro l E p e s m args below meth c C H locs hl hH ls hv
  exact lv_if_gt C.2.1 C.2.2.1 hd ht (fun h => kt h l E p e s m args below meth c C H locs hl hH ls hv) (fun h => kf h l E p e s m args below meth c C H locs hl hH ls hv)
theorem x_icmp_gt {x y : Int32} {off : Int} {tgt : Nat} (hd : decode (mB j) pc = .ok (.if_icmp .gt off, 3)) (ht : (pc : Int) + off = (tgt : Int)) (kt : y < x → Wp R j Z k n tgt lv st M top) (kf : ¬ y < x → Wp R j Z k n (pc + 3) lv st M top) : Wp R j Z k n pc lv (.int y :: .int x :: st) M top := by
  intro l E p e s m args below meth c C H locs hl hH ls hv
  exact lv_icmp_gt C.2.1 C.2.2.1 hd ht (fun h => kt h l E p e s m args below meth c C H locs hl hH ls hv) (fun h => kf h l E p e s m args below meth c C H locs hl hH ls hv)
theorem x_if_le {x : Int32} {off : Int} {tgt : Nat} (hd : decode (mB j) pc = .ok (.ifCond .le off, 3)) (ht : (pc : Int) + off = (tgt : Int)) (kt : x ≤ 0 → Wp R j Z k n tgt lv st M top) (kf : ¬ x ≤ 0 → Wp R j Z k n (pc + 3) lv st M top) : Wp R j Z k n pc lv (.int x :: st) M top := by
  intro l E p e s m args below meth c C H locs hl hH ls hv
  exact lv_if_le C.2.1 C.2.2.1 hd ht (fun h => kt h l E p e s m args below meth c C H locs hl hH ls hv) (fun h => kf h l E p e s m args below meth c C H locs hl hH ls hv)
theorem x_icmp_le {x y : Int32} {off : Int} {tgt : Nat} (hd : decode (mB j) pc = .ok (.if_icmp .le off, 3)) (ht : (pc : Int) + off = (tgt : Int)) (kt : x ≤ y → Wp R j Z k n tgt lv st M top) (kf : ¬ x ≤ y → Wp R j Z k n (pc + 3) lv st M top) : Wp R j Z k n pc lv (.int y :: .int x :: st) M top := by
  intro l E p e s m args below meth c C H locs hl hH ls hv
  exact lv_icmp_le C.2.1 C.2.2.1 hd ht (fun h => kt h l E p e s m args below meth c C H locs hl hH ls hv) (fun h => kf h l E p e s m args below meth c C H locs hl hH ls hv)
theorem x_goto {off : Int} {tgt : Nat} (hd : decode (mB j) pc = .ok (.goto off, 3)) (ht : (pc : Int) + off = (tgt : Int)) (kk : Wp R j Z k n tgt lv st M top) : Wp R j Z k n pc lv st M top := by
  intro l E p e s m args below meth c C H locs hl hH ls hv
  exact lv_goto C.2.1 C.2.2.1 hd ht (kk l E p e s m args below meth c C H locs hl hH ls hv)
theorem x_lookup {dflt : Int} {ps : Array (Int × Int)} {len : Nat} {x : Int32} {off : Int} {tgt : Nat} (hd : decode (mB j) pc = .ok (.lookupswitch dflt ps, len)) (hp0 : (ps.toList.zip (ps.toList.drop 1)).all (fun (a, next) => a.1 < next.1) = true) (ho : Op.lookupswitch.offset ps.toList dflt x.toInt = off) (ht : (pc : Int) + off = (tgt : Int)) (kk : Wp R j Z k n tgt lv st M top) : Wp R j Z k n pc lv (.int x :: st) M top := by
  intro l E p e s m args below meth c C H locs hl hH ls hv
  exact lv_lookup C.2.1 C.2.2.1 hd hp0 ho ht (kk l E p e s m args below meth c C H locs hl hH ls hv)
theorem x_tableOut {dflt lo hi : Int} {offs : Array Int} {len : Nat} {x : Int32} {tgt : Nat} (hd : decode (mB j) pc = .ok (.tableswitch dflt lo hi offs, len)) (h0 : x.toInt < lo ∨ hi < x.toInt) (ht : (pc : Int) + dflt = (tgt : Int)) (kk : Wp R j Z k n tgt lv st M top) : Wp R j Z k n pc lv (.int x :: st) M top := by
  intro l E p e s m args below meth c C H locs hl hH ls hv
  exact lv_tableOut C.2.1 C.2.2.1 hd h0 ht (kk l E p e s m args below meth c C H locs hl hH ls hv)
theorem x_tableIn {dflt lo hi : Int} {offs : Array Int} {len : Nat} {x : Int32} {off : Int} {tgt : Nat} (hd : decode (mB j) pc = .ok (.tableswitch dflt lo hi offs, len)) (h1 : ¬ x.toInt < lo) (h2 : ¬ hi < x.toInt) (ho : offs[(x.toInt - lo).toNat]? = some off) (ht : (pc : Int) + off = (tgt : Int)) (kk : Wp R j Z k n tgt lv st M top) : Wp R j Z k n pc lv (.int x :: st) M top := by
  intro l E p e s m args below meth c C H locs hl hH ls hv
  exact lv_tableIn C.2.1 C.2.2.1 hd h1 h2 ho ht (kk l E p e s m args below meth c C H locs hl hH ls hv)
theorem x_ldc {idx : Nat} {v : Int32} (hw : Cond.constant (mY j).cls idx v ∈ gw) (hd : decode (mB j) pc = .ok (.ldc idx, 2)) (kk : Wp R j Z k n (pc + 2) lv (.int v :: st) M top) : Wp R j Z k n pc lv st M top := by
  intro l E p e s m args below meth c C H locs hl hH ls hv
  exact lv_ldc C.2.1 C.2.2.1 C.2.2.2.2.2.1 (C.2.2.2.2.2.2.1 _ hw) hd (kk l E p e s m args below meth c C H locs hl hH ls hv)
theorem x_ldc2 {idx : Nat} {v : Int64} (hw : Cond.constantLong (mY j).cls idx v ∈ gw) (hd : decode (mB j) pc = .ok (.ldc2_w idx, 3)) (kk : Wp R j Z k n (pc + 3) lv (.long v :: st) M top) : Wp R j Z k n pc lv st M top := by
  intro l E p e s m args below meth c C H locs hl hH ls hv
  exact lv_ldc2 C.2.1 C.2.2.1 C.2.2.2.2.2.1 (C.2.2.2.2.2.2.1 _ hw) hd (kk l E p e s m args below meth c C H locs hl hH ls hv)
/-- a class of the list -/
theorem cl_get {ci : Nat} (h : ci < 10) : (classes : List vw_C)[ci]? = some (clS ci, clT ci, clN ci) := by
  match ci, h with
  | 0, _ => rfl
  | 1, _ => rfl
  | 2, _ => rfl
  | 3, _ => rfl
  | 4, _ => rfl
  | 5, _ => rfl
  | 6, _ => rfl
  | 7, _ => rfl
  | 8, _ => rfl
  | 9, _ => rfl
theorem cl_ws {ci : Nat} (h : ci < 10) : ∀ w ∈ u_ws (clS ci) (clT ci) (clN ci), w ∈ gw := by
  match ci, h with
  | 0, _ => exact fW0
  | 1, _ => exact fW1
  | 2, _ => exact fW2
  | 3, _ => exact fW3
  | 4, _ => exact fW4
  | 5, _ => exact fW5
  | 6, _ => exact fW6
  | 7, _ => exact fW7
  | 8, _ => exact fW8
  | 9, _ => exact fW9
theorem cl_ty {ci : Nat} (h : ci < 10) : ∀ k, k < clN ci → parseFieldDescriptor (clT ci k).2.2.1 = some (clY ci k) := by
  match ci, h with
  | 0, _ => exact fO0
  | 1, _ => exact fO1
  | 2, _ => exact fO2
  | 3, _ => exact fO3
  | 4, _ => exact fO4
  | 5, _ => exact fO5
  | 6, _ => exact fO6
  | 7, _ => exact fO7
  | 8, _ => exact fO8
  | 9, _ => exact fO9
theorem cl_nm {ci : Nat} (h : ci < 10) : ∀ a, a < clN ci → ∀ b, b < clN ci → a ≠ b → (clT ci a).2.1 ≠ (clT ci b).2.1 := by
  match ci, h with
  | 0, _ => exact fN0
  | 1, _ => exact fN1
  | 2, _ => exact fN2
  | 3, _ => exact fN3
  | 4, _ => exact fN4
  | 5, _ => exact fN5
  | 6, _ => exact fN6
  | 7, _ => exact fN7
  | 8, _ => exact fN8
  | 9, _ => exact fN9
theorem x_getf {a ci f idx : Nat} {fs : List Value} {v : Value} (hd : decode (mB j) pc = .ok (.getfield idx, 3)) (hw : Cond.fieldLink (mY j).cls idx (clT ci f).1 (clT ci f).2.1 (clT ci f).2.2.1 ∈ gw) (hci : ci < 10) (hf : f < clN ci) (ha : 3 ≤ a ∧ a < top) (hm : M a = .inr (ci, fs)) (hfv : fs[f]? = some v) (kk : Wp R j Z k n (pc + 3) lv (v :: st) M top) : Wp R j Z k n pc lv (.ref a :: st) M top := by
  intro l E p e s m args below meth c C H locs hl hH ls hv
  have hg := wl_get (E := E) (M := M) ha.1 ha.2
  rw [hm] at hg
  exact va_get (D := eD E) (C := clS ci) (T := clT ci) (N := clN ci) C.2.1 C.2.2.1 C.2.2.2.2.2.2.1 (cl_ws hci) C.2.2.2.2.2.1 C.2.2.2.2.2.2.2.2.2.1.1 hH.1 (a - 3) hg (cl_get hci) f hf (C.2.2.2.2.2.2.1 _ hw) (fun _ h9 => h9) (by rw [List.getElem?_map, hfv]; rfl) hd (kk l E p e s m args below meth c C H locs hl hH ls hv)
theorem tv_ref {ty : FieldType} {i q : Nat} (h : narrow ty (.ref i) = .ref i ∧ fits ty (.ref i) = true) : narrow ty (.ref q) = .ref q ∧ fits ty (.ref q) = true := by
  obtain ⟨h1, h2⟩ := h
  cases ty <;> first | exact ⟨rfl, rfl⟩ | (simp [fits] at h2)
theorem tv_fit {ty : FieldType} {v : Value} (ad : Nat → Nat) (h : narrow ty v = v ∧ fits ty v = true) : narrow ty (tv ad v) = tv ad v ∧ fits ty (tv ad v) = true := by
  cases v with
  | ref i => exact tv_ref h
  | _ => exact h
theorem loc_add {E : En} {locs : List Loc} {a i : Nat} (hl : ∀ q ∈ locs, eS E ≤ q.base) (ha : eS E ≤ a) : ∀ q ∈ locs ++ [(⟨a, i⟩ : Loc)], eS E ≤ q.base := by
  intro q hq
  rcases List.mem_append.mp hq with h | h
  · exact hl q h
  · rw [List.mem_singleton.mp h]; exact ha
theorem ea_ge {E : En} (hE : eOK E) {a : Nat} (h : 3 ≤ a) : eS E ≤ ea E a := by have := hE.1 a h; omega
theorem hp_put {E : En} (hE : eOK E) {M : Me} {top a : Nat} {H H1 : Heap} (h1 : 3 ≤ a) (h2 : a < top) (h : hp E M top H) {c : Ce} (he : va_at (eD E) classes (ea E a, tc (eA E) (ea E) c) H1) (z : H1.size = H.size) (oq : ∀ q : Nat, q ≠ ea E a → H1[q]? = H[q]?) : hp E (va_up M a c) top H1 := by
  have hP := h.1.set (wl_D hE M top) (wl_get h1 h2) he oq
  rw [wl_set h1 rfl] at hP
  refine ⟨hP, ⟨h.2.1.1, by rw [z]; exact h.2.1.2⟩, fun q hq => ?_⟩
  rw [oq q (fun e0 => by have := ea_ge hE h1; omega)]
  exact h.2.2 q hq
theorem hp_push {E : En} (hE : eOK E) {M : Me} {top : Nat} {H H1 : Heap} (h : hp E M top H) {c : Ce} (he : va_at (eD E) classes (H.size, tc (eA E) (ea E) c) H1) (z : H1.size = H.size + 1) (oq : ∀ q : Nat, q < H.size → H1[q]? = H[q]?) : hp E (va_up M top c) (top + 1) H1 ∧ ea E top = H.size := by
  have ht := h.2.1
  have e0 : ea E top = H.size := by have := hE.1 top ht.1; omega
  refine ⟨⟨fun q x hx => ?_, ⟨by omega, by omega⟩, fun q hq => ?_⟩, e0⟩
  · obtain ⟨h1, rfl⟩ := wl_at hx
    by_cases hq : q + 3 = top
    · rw [hq, va_up_self, e0]; exact he
    · have h2 := h.1 q _ (by have := wl_get (E := E) (M := M) (top := top) (a := q + 3) (by omega) (by omega); rw [Nat.add_sub_cancel] at this; exact this)
      rw [va_up_ne _ _ hq]
      exact h2.kept (oq _ h2.lt)
  · rw [oq q (by omega)]; exact h.2.2 q hq
theorem x_putf {a ci f idx : Nat} {fs : List Value} {v : Value} (hd : decode (mB j) pc = .ok (.putfield idx, 3)) (hw : Cond.fieldLink (mY j).cls idx (clT ci f).1 (clT ci f).2.1 (clT ci f).2.2.1 ∈ gw) (hci : ci < 10) (hf : f < clN ci) (hfin : (clT ci f).2.2.2 = false) (ha : 3 ≤ a ∧ a < top) (hm : M a = .inr (ci, fs)) (hn : narrow (clY ci f) v = v ∧ fits (clY ci f) v = true) (hlen : f < fs.length) (kk : Wp R j Z k n (pc + 3) lv st (va_up M a (.inr (ci, fs.set f v))) top) : Wp R j Z k n pc lv (v :: .ref a :: st) M top := by
  intro l E p e s m args below meth c C H locs hl hH ls hv
  have hg := wl_get (E := E) (M := M) ha.1 ha.2
  rw [hm] at hg
  have hK := C.2.2.2.2.2.2.2.2.2.1.1
  have hts := C.2.2.2.2.2.2.1
  have hn2 := tv_fit (ea E) hn
  have hap := va_apart (own := (mY j).cls) hts (cl_ws hci) (clY ci) (cl_ty hci) (cl_nm hci) hK (cl_get hci)
  obtain ⟨r, hr1, cell, q1, q2, q3, q4⟩ := hH.1 (a - 3) _ hg
  have hr : r = (clS ci, clT ci, clN ci) := Option.some.inj (hr1.symm.trans (cl_get hci))
  subst hr
  obtain ⟨hSl, hfc, kC, hkC, hkind⟩ := hK.1 ci _ (cl_get hci)
  obtain ⟨cf, kf, fi, f0, hi, hsl⟩ := hSl f hf
  have hlay := hts _ (cl_ws hci _ (u_in_lay hf))
  unfold u_lay at hlay
  rw [if_neg (by rw [hfin]; decide)] at hlay
  have hst := (u_facts hfc hkC (u_lays hts (cl_ws hci) hf) hi).1
  have h6 := u_store hfc hkC hkind hlay hi (cl_ty hci f hf) hn2.1 hn2.2
  refine W.putK C.2.1 C.2.2.1 (f := f0) ⟨C.2.2.2.2.2.1, hts _ hw, ⟨_, _, _, hi⟩, hst⟩ (by rw [q2]; exact h6) q1 q3 (by rw [hsl]; exact k2_hasslot (q4 f hf)) rfl rfl hd fun H1 e1 e2 e3 => ?_
  rw [hsl] at e1
  refine kk l E p e s m args below meth c C H1 _ (loc_add hl (ea_ge C.1 ha.1)) (hp_put C.1 ha.1 ha.2 hH ⟨_, cl_get hci, t_OB.to (V := updV (vp_V (fs.map (tv (ea E)))) f (tv (ea E) v)) ⟨_, e1, q2, q3, t_set q4 hap hf _⟩ (fun z _ => ?_)⟩ e2 e3) ls hv
  rw [vp_updV_set (by simpa using hlen), ← List.map_set]
theorem x_putF {a ci f idx : Nat} {fs : List Value} {v : Value} (hd : decode (mB j) pc = .ok (.putfield idx, 3)) (hw : Cond.fieldLink (mY j).cls idx (clT ci f).1 (clT ci f).2.1 (clT ci f).2.2.1 ∈ gw) (hci : ci < 10) (hf : f < clN ci) (hfin : (clT ci f).2.2.2 = true) (hini : (mY j).name = "<init>") (hdec : (clT ci f).1 = (mY j).cls) (ha : 3 ≤ a ∧ a < top) (hm : M a = .inr (ci, fs)) (hn : narrow (clY ci f) v = v ∧ fits (clY ci f) v = true) (hlen : f < fs.length) (kk : Wp R j Z k n (pc + 3) lv st (va_up M a (.inr (ci, fs.set f v))) top) : Wp R j Z k n pc lv (v :: .ref a :: st) M top := by
  intro l E p e s m args below meth c C H locs hl hH ls hv
  have hg := wl_get (E := E) (M := M) ha.1 ha.2
  rw [hm] at hg
  have hK := C.2.2.2.2.2.2.2.2.2.1.1
  have hts := C.2.2.2.2.2.2.1
  have hown := C.2.2.2.2.2.1
  have hn2 := tv_fit (ea E) hn
  have hap := va_apart (own := (mY j).cls) hts (cl_ws hci) (clY ci) (cl_ty hci) (cl_nm hci) hK (cl_get hci)
  obtain ⟨r, hr1, cell, q1, q2, q3, q4⟩ := hH.1 (a - 3) _ hg
  have hr : r = (clS ci, clT ci, clN ci) := Option.some.inj (hr1.symm.trans (cl_get hci))
  subst hr
  obtain ⟨hSl, hfc, kC, hkC, hkind⟩ := hK.1 ci _ (cl_get hci)
  obtain ⟨cf, kf, fi, f0, hi, hsl⟩ := hSl f hf
  have hlay := hts _ (cl_ws hci _ (u_in_lay hf))
  unfold u_lay at hlay
  rw [if_pos hfin] at hlay
  have hst := (u_facts hfc hkC (u_lays hts (cl_ws hci) hf) hi).1
  have hcf : m.cls = cf := by
    obtain ⟨_, _, c', _, _, _, -, -, hf', -, -, -, hown2, -⟩ := Cond.laysFinal_spec hlay
    have e1 : c' = cf := by have := hi.symm.trans hf'; simp at this; exact this.1.symm
    rw [hdec] at hown2
    rw [← e1]; exact Option.some.inj (hown.symm.trans hown2)
  have h6 := u_fits hfc hkC hkind (Or.inr hlay) hi (cl_ty hci f hf) hn2.1 hn2.2
  refine W.putFinK C.2.1 C.2.2.1 hown (hts _ hw) hi hst hcf (C.2.2.2.2.2.2.2.2.1 hini) (by rw [q2]; exact h6) q1 q3 (by rw [hsl]; exact k2_hasslot (q4 f hf)) rfl rfl hd fun H1 e1 e2 e3 => ?_
  rw [hsl] at e1
  refine kk l E p e s m args below meth c C H1 _ (loc_add hl (ea_ge C.1 ha.1)) (hp_put C.1 ha.1 ha.2 hH ⟨_, cl_get hci, t_OB.to (V := updV (vp_V (fs.map (tv (ea E)))) f (tv (ea E) v)) ⟨_, e1, q2, q3, t_set q4 hap hf _⟩ (fun z _ => ?_)⟩ e2 e3) ls hv
  rw [vp_updV_set (by simpa using hlen), ← List.map_set]
theorem x_iald {a N : Nat} {f : Nat → Int32} {i : Int32} (hd : decode (mB j) pc = .ok (.iaload, 1)) (ha : 3 ≤ a ∧ a < top) (hm : M a = .inl (0, N, .inl f)) (hi : vp_in i N) (kk : Wp R j Z k n (pc + 1) lv (.int (f i.toNatClampNeg) :: st) M top) : Wp R j Z k n pc lv (.int i :: .ref a :: st) M top := by
  intro l E p e s m args below meth c C H locs hl hH ls hv
  have hg := wl_get (E := E) (M := M) ha.1 ha.2
  rw [hm] at hg
  exact va_iald C.2.1 C.2.2.1 C.2.2.2.2.2.2.2.2.2.1.1 hH.1 (a - 3) 0 hg (tyl_get E (by decide)) hi hd (kk l E p e s m args below meth c C H locs hl hH ls hv)
theorem x_lald {a N : Nat} {f : Nat → Int64} {i : Int32} (hd : decode (mB j) pc = .ok (.laload, 1)) (ha : 3 ≤ a ∧ a < top) (hm : M a = .inl (1, N, .inr (.inl f))) (hi : vp_in i N) (kk : Wp R j Z k n (pc + 1) lv (.long (f i.toNatClampNeg) :: st) M top) : Wp R j Z k n pc lv (.int i :: .ref a :: st) M top := by
  intro l E p e s m args below meth c C H locs hl hH ls hv
  have hg := wl_get (E := E) (M := M) ha.1 ha.2
  rw [hm] at hg
  exact va_lald C.2.1 C.2.2.1 C.2.2.2.2.2.2.2.2.2.1.1 hH.1 (a - 3) 1 hg (tyl_get E (by decide)) hi hd (kk l E p e s m args below meth c C H locs hl hH ls hv)
theorem x_zald {a N : Nat} {f : Nat → Int32} {i : Int32} (hd : decode (mB j) pc = .ok (.baload, 1)) (ha : 3 ≤ a ∧ a < top) (hm : M a = .inl (2, N, .inl f)) (hi : vp_in i N) (kk : Wp R j Z k n (pc + 1) lv (.int (f i.toNatClampNeg) :: st) M top) : Wp R j Z k n pc lv (.int i :: .ref a :: st) M top := by
  intro l E p e s m args below meth c C H locs hl hH ls hv
  have hg := wl_get (E := E) (M := M) ha.1 ha.2
  rw [hm] at hg
  exact va_zald C.2.1 C.2.2.1 C.2.2.2.2.2.2.2.2.2.1.1 hH.1 (a - 3) 2 hg (tyl_get E (by decide)) hi hd (kk l E p e s m args below meth c C H locs hl hH ls hv)
theorem x_bald {a N : Nat} {f : Nat → Int32} {i : Int32} (hd : decode (mB j) pc = .ok (.baload, 1)) (ha : 3 ≤ a ∧ a < top) (hm : M a = .inl (3, N, .inl f)) (hi : vp_in i N) (kk : Wp R j Z k n (pc + 1) lv (.int (f i.toNatClampNeg) :: st) M top) : Wp R j Z k n pc lv (.int i :: .ref a :: st) M top := by
  intro l E p e s m args below meth c C H locs hl hH ls hv
  have hg := wl_get (E := E) (M := M) ha.1 ha.2
  rw [hm] at hg
  exact va_bald C.2.1 C.2.2.1 C.2.2.2.2.2.2.2.2.2.1.1 hH.1 (a - 3) 3 hg (tyl_get E (by decide)) hi hd (kk l E p e s m args below meth c C H locs hl hH ls hv)
theorem tv_rf (ad : Nat → Nat) (o : Option Nat) : tv ad (va_rf o) = va_rf (o.map ad) := by cases o <;> rfl
theorem x_aald {a N t : Nat} {f : Nat → Option Nat} {i : Int32} (ht : 4 ≤ t ∧ t < 7) (hd : decode (mB j) pc = .ok (.aaload, 1)) (ha : 3 ≤ a ∧ a < top) (hm : M a = .inl (t, N, .inr (.inr (.inr (.inr f))))) (hi : vp_in i N) (kk : Wp R j Z k n (pc + 1) lv (va_rf (f i.toNatClampNeg) :: st) M top) : Wp R j Z k n pc lv (.int i :: .ref a :: st) M top := by
  intro l E p e s m args below meth c C H locs hl hH ls hv
  have hg := wl_get (E := E) (M := M) ha.1 ha.2
  rw [hm] at hg
  have hq : ∃ C0 : String, tyO t = .object C0 := by
    obtain ⟨h1, h2⟩ := ht
    rcases (by omega : t = 4 ∨ t = 5 ∨ t = 6) with rfl | rfl | rfl <;> exact ⟨_, rfl⟩
  obtain ⟨C0, hC0⟩ := hq
  have ht2 := tyl_get E ht.2
  rw [hC0] at ht2
  have hk := kk l E p e s m args below meth c C H locs hl hH ls hv
  rw [List.map_cons, tv_rf] at hk
  exact va_aldq C.2.1 C.2.2.1 C.2.2.2.2.2.2.2.2.2.1.1 hH.1 (a - 3) t hg ht2 hi hd hk
theorem x_iast {a N : Nat} {f : Nat → Int32} {i : Int32} {v : Int32} (hd : decode (mB j) pc = .ok (.iastore, 1)) (ha : 3 ≤ a ∧ a < top) (hm : M a = .inl (0, N, .inl f)) (hi : vp_in i N) (kk : Wp R j Z k n (pc + 1) lv st (va_up M a (.inl (0, N, .inl (upd f i.toNatClampNeg v)))) top) : Wp R j Z k n pc lv (.int v :: .int i :: .ref a :: st) M top := by
  intro l E p e s m args below meth c C H locs hl hH ls hv
  have hg := wl_get (E := E) (M := M) ha.1 ha.2
  rw [hm] at hg
  refine W.iast C.2.1 C.2.2.1 (hH.1 (a - 3) _ hg) ((C.2.2.2.2.2.2.2.2.2.1.1.2 0 _ (tyl_get E (by decide))).1 N (fun q => .int (f q))) (fun q => by cases q) (by show ¬ (i < 0 ∨ (arrV _ _ _).slots.size ≤ _); rw [arrV_size]; exact hi) rfl rfl hd fun H1 e1 z1 oq => ?_
  refine kk l E p e s m args below meth c C H1 _ (loc_add hl (ea_ge C.1 ha.1)) (hp_put C.1 ha.1 ha.2 hH ?_ z1 oq) ls hv
  show H1[ea E a]? = some (vp_cell (eA E 0) (N, .inl (upd f i.toNatClampNeg v)))
  rw [e1]
  show some ((vp_cell (eA E 0) (N, .inl f)).setSlot _ _) = _
  rw [vp_cell_i, vp_cell_i, arrV_store]
  congr 2
  funext q
  by_cases hq : q = i.toNatClampNeg
  · subst hq
    simp [updV, upd]
    try rfl
  · simp [updV, upd, hq]
theorem x_zast {a N : Nat} {f : Nat → Int32} {i : Int32} {v : Int32} (hd : decode (mB j) pc = .ok (.bastore, 1)) (ha : 3 ≤ a ∧ a < top) (hm : M a = .inl (2, N, .inl f)) (hi : vp_in i N) (kk : Wp R j Z k n (pc + 1) lv st (va_up M a (.inl (2, N, .inl (upd f i.toNatClampNeg (vp_nar .boolean v))))) top) : Wp R j Z k n pc lv (.int v :: .int i :: .ref a :: st) M top := by
  intro l E p e s m args below meth c C H locs hl hH ls hv
  have hg := wl_get (E := E) (M := M) ha.1 ha.2
  rw [hm] at hg
  refine W.zast C.2.1 C.2.2.1 (hH.1 (a - 3) _ hg) ((C.2.2.2.2.2.2.2.2.2.1.1.2 2 _ (tyl_get E (by decide))).1 N (fun q => .int (f q))) (fun q => by cases q) (by show ¬ (i < 0 ∨ (arrV _ _ _).slots.size ≤ _); rw [arrV_size]; exact hi) rfl rfl hd fun H1 e1 z1 oq => ?_
  refine kk l E p e s m args below meth c C H1 _ (loc_add hl (ea_ge C.1 ha.1)) (hp_put C.1 ha.1 ha.2 hH ?_ z1 oq) ls hv
  show H1[ea E a]? = some (vp_cell (eA E 2) (N, .inl (upd f i.toNatClampNeg (vp_nar .boolean v))))
  rw [e1]
  show some ((vp_cell (eA E 2) (N, .inl f)).setSlot _ _) = _
  rw [vp_cell_i, vp_cell_i, arrV_store]
  congr 2
  funext q
  by_cases hq : q = i.toNatClampNeg
  · subst hq
    simp [updV, upd, vp_nar]
    try rfl
  · simp [updV, upd, hq]
theorem x_bast {a N : Nat} {f : Nat → Int32} {i : Int32} {v : Int32} (hd : decode (mB j) pc = .ok (.bastore, 1)) (ha : 3 ≤ a ∧ a < top) (hm : M a = .inl (3, N, .inl f)) (hi : vp_in i N) (kk : Wp R j Z k n (pc + 1) lv st (va_up M a (.inl (3, N, .inl (upd f i.toNatClampNeg (vp_nar .byte v))))) top) : Wp R j Z k n pc lv (.int v :: .int i :: .ref a :: st) M top := by
  intro l E p e s m args below meth c C H locs hl hH ls hv
  have hg := wl_get (E := E) (M := M) ha.1 ha.2
  rw [hm] at hg
  refine W.bast C.2.1 C.2.2.1 (hH.1 (a - 3) _ hg) ((C.2.2.2.2.2.2.2.2.2.1.1.2 3 _ (tyl_get E (by decide))).1 N (fun q => .int (f q))) (fun q => by cases q) (by show ¬ (i < 0 ∨ (arrV _ _ _).slots.size ≤ _); rw [arrV_size]; exact hi) rfl rfl hd fun H1 e1 z1 oq => ?_
  refine kk l E p e s m args below meth c C H1 _ (loc_add hl (ea_ge C.1 ha.1)) (hp_put C.1 ha.1 ha.2 hH ?_ z1 oq) ls hv
  show H1[ea E a]? = some (vp_cell (eA E 3) (N, .inl (upd f i.toNatClampNeg (vp_nar .byte v))))
  rw [e1]
  show some ((vp_cell (eA E 3) (N, .inl f)).setSlot _ _) = _
  rw [vp_cell_i, vp_cell_i, arrV_store]
  congr 2
  funext q
  by_cases hq : q = i.toNatClampNeg
  · subst hq
    simp [updV, upd, vp_nar]
    try rfl
  · simp [updV, upd, hq]
theorem x_last {a N : Nat} {f : Nat → Int64} {i : Int32} {v : Int64} (hd : decode (mB j) pc = .ok (.lastore, 1)) (ha : 3 ≤ a ∧ a < top) (hm : M a = .inl (1, N, .inr (.inl f))) (hi : vp_in i N) (kk : Wp R j Z k n (pc + 1) lv st (va_up M a (.inl (1, N, .inr (.inl (vp_updL f i.toNatClampNeg v))))) top) : Wp R j Z k n pc lv (.long v :: .int i :: .ref a :: st) M top := by
  intro l E p e s m args below meth c C H locs hl hH ls hv
  have hg := wl_get (E := E) (M := M) ha.1 ha.2
  rw [hm] at hg
  refine W.last C.2.1 C.2.2.1 (hH.1 (a - 3) _ hg) ((C.2.2.2.2.2.2.2.2.2.1.1.2 1 _ (tyl_get E (by decide))).1 N (fun q => .long (f q))) (fun q => by cases q) (by show ¬ (i < 0 ∨ (arrV _ _ _).slots.size ≤ _); rw [arrV_size]; exact hi) rfl rfl hd fun H1 e1 z1 oq => ?_
  refine kk l E p e s m args below meth c C H1 _ (loc_add hl (ea_ge C.1 ha.1)) (hp_put C.1 ha.1 ha.2 hH ?_ z1 oq) ls hv
  show H1[ea E a]? = some (vp_cell (eA E 1) (N, .inr (.inl (vp_updL f i.toNatClampNeg v))))
  rw [e1]
  show some ((vp_cell (eA E 1) (N, .inr (.inl f))).setSlot _ _) = _
  rw [vp_cell_l, vp_cell_l, arrV_store]
  congr 2
  funext q
  by_cases hq : q = i.toNatClampNeg
  · subst hq
    simp [updV, vp_updL]
    try rfl
  · simp [updV, vp_updL, hq]
theorem x_aast {a N t ci v : Nat} {f : Nat → Option Nat} {fs : List Value} {i : Int32} (ht : t < 7) (htc : tyO t = .object (clS ci)) (hci : ci < 10) (hd : decode (mB j) pc = .ok (.aastore, 1)) (ha : 3 ≤ a ∧ a < top) (hm : M a = .inl (t, N, .inr (.inr (.inr (.inr f))))) (hv0 : 3 ≤ v ∧ v < top) (hmv : M v = .inr (ci, fs)) (hi : vp_in i N) (kk : Wp R j Z k n (pc + 1) lv st (va_up M a (.inl (t, N, .inr (.inr (.inr (.inr (va_up f i.toNatClampNeg (some v)))))))) top) : Wp R j Z k n pc lv (.ref v :: .int i :: .ref a :: st) M top := by
  intro l E p e s m args below meth c C H locs hl hH ls hv
  have hg := wl_get (E := E) (M := M) ha.1 ha.2
  rw [hm] at hg
  have hgv := wl_get (E := E) (M := M) hv0.1 hv0.2
  rw [hmv] at hgv
  have hK := C.2.2.2.2.2.2.2.2.2.1.1
  have ht2 := tyl_get E ht
  rw [htc] at ht2
  have hlt : i.toNatClampNeg < N := Nat.not_le.mp fun q => hi (Or.inr q)
  have h0 : ¬ i < 0 := fun q => hi (Or.inl q)
  obtain ⟨r', hr', cellV, g1, g2, g3, -⟩ := hH.1 (v - 3) _ hgv
  have hcls := (hK.1 ci _ (cl_get hci)).2
  obtain ⟨kA, comp, k1, k2, k3, -⟩ := (hK.2 t _ ht2).2
  have hcomp : comp = (eD E).1 ci := Option.some.inj (k3.symm.trans hcls.1)
  subst hcomp
  obtain ⟨kC, hkC, -⟩ := hcls.2
  refine W.aast C.2.1 C.2.2.1 (hH.1 (a - 3) _ hg) (fun q h => by cases h) (fun h => by cases h) k1 k2 rfl hkC ⟨h0, by show _ < (arrV _ _ _).slots.size; rw [arrV_size]; exact hlt⟩ g1 (fun q h => by rw [g3] at h; cases h) (by rw [g2]; exact hkC) (by rw [g2]; exact va_assign hcls) rfl rfl hd fun H1 e1 z1 oq => ?_
  refine kk l E p e s m args below meth c C H1 _ (loc_add hl (ea_ge C.1 ha.1)) (hp_put C.1 ha.1 ha.2 hH ?_ z1 oq) ls hv
  show H1[ea E a]? = some (vp_cell (eA E t) (N, .inr (.inr (.inr (.inr (fun q => (va_up f i.toNatClampNeg (some v) q).map (ea E)))))))
  rw [e1]
  show some ((vp_cell (eA E t) (N, .inr (.inr (.inr (.inr (fun q => (f q).map (ea E))))))).setSlot _ _) = _
  rw [vp_cell_q, vp_cell_q, arrV_store]
  congr 2
  funext q
  by_cases hq : q = i.toNatClampNeg
  · subst hq
    simp [updV, va_up, va_rf]
  · simp [updV, va_up, hq]
end XR
end
section
/-! making things, calls, returns, the script -/
section XC
variable {R : Room} {j : Nat} {Z : Zt} {k n pc : Nat} {lv : List (Nat × Value)} {st : List Value} {M : Me} {top : Nat}
theorem hp_lt {E : En} {top : Nat} {M : Me} {H : Heap} (h : hp E M top H) : 3 ≤ top := h.2.1.1
theorem va_def (ci : Nat) (hci : ci < 10) (ad : Nat → Nat) : ∀ q, q < clN ci → defaultValue (clY ci q) = vp_V (((List.range (clN ci)).map (fun q => defaultValue (clY ci q))).map (tv ad)) q := by
  intro q hq
  have h1 : tv ad (defaultValue (clY ci q)) = defaultValue (clY ci q) := by cases clY ci q <;> rfl
  simp [vp_V, List.getD_eq_getElem?_getD, List.getElem?_map, List.getElem?_range hq, h1]
theorem x_new {ci idx : Nat} {fs : List Value} (hd : decode (mB j) pc = .ok (.new idx, 3)) (hw : Cond.classLink (mY j).cls idx (clS ci) ∈ gw) (hi1 : Cond.instantiable (clS ci) (clN ci) ∈ gw) (hi2 : Cond.initialized (clS ci) ∈ gw) (hci : ci < 10) (hfs : (List.range (clN ci)).map (fun q => defaultValue (clY ci q)) = fs) (hk : k + 1 ≤ R.cells ∧ n + clN ci ≤ R.slots) (kk : Wp R j Z (k + 1) (n + clN ci) (pc + 3) lv (.ref top :: st) (va_up M top (.inr (ci, fs))) (top + 1)) : Wp R j Z k n pc lv st M top := by
  intro l E p e s m args below meth c C H locs hl hH ls hv
  have hts := C.2.2.2.2.2.2.1
  have hK := C.2.2.2.2.2.2.2.2.2.1.1
  have hKn := hK.1 ci _ (cl_get hci)
  refine W.newcK C.2.1 C.2.2.1 C.2.2.2.2.2.1 (hts _ hw) (hts _ hi1) (hts _ hi2) rfl hd hk.1 hk.2 hKn.2.1 rfl fun H1 kC hkC e1 z1 o1 => ?_
  obtain ⟨hH1, ht⟩ := hp_push C.1 hH (c := .inr (ci, fs)) (H1 := H1) ⟨_, cl_get hci, (u_born (clY ci) hts (cl_ws hci) hKn hkC e1 (cl_ty hci)).to (by rw [← hfs]; exact va_def ci hci (ea E))⟩ z1 o1
  rw [← ht]
  exact kk l E p e s m args below meth c C H1 locs hl hH1 ls hv
theorem x_newarr {t N : Nat} {at0 : ArrayType} {i : Int32} {a0 : vp_A} (hd : decode (mB j) pc = .ok (.newarray at0, 2)) (ht : t < 4) (hty : newarray.typeOf at0 = tyO t) (hw : Cond.arrayClass (tyO t) ∈ gw) (ha : ∀ cA : ClassId, vp_cell cA a0 = arrV cA N (fun _ => defaultValue (tyO t))) (hta : ∀ ad : Nat → Nat, tA ad a0 = a0) (hi0 : ¬ i < 0) (hN : i.toNatClampNeg = N) (hb : N * 8 ≤ 536870912) (hk : k + 1 ≤ R.cells ∧ n + N ≤ R.slots) (kk : Wp R j Z (k + 1) (n + N) (pc + 2) lv (.ref top :: st) (va_up M top (.inl (t, a0))) (top + 1)) : Wp R j Z k n pc lv (.int i :: st) M top := by
  intro l E p e s m args below meth c C H locs hl hH ls hv
  have hts := C.2.2.2.2.2.2.1
  have hK := C.2.2.2.2.2.2.2.2.2.1.1
  have hcb : componentBytes (newarray.typeOf at0) ≤ 8 := by cases at0 <;> decide
  have hNb : N * componentBytes (newarray.typeOf at0) ≤ 536870912 := Nat.le_trans (Nat.mul_le_mul_left _ hcb) hb
  refine va_newaK C.2.1 C.2.2.1 (by rw [hty]; exact hts _ hw) rfl hd rfl hi0 hN hNb hk.1 hk.2 rfl fun H1 cA e1 z1 o1 hAr hNm => ?_
  have hcA : cA = eA E t := by
    have h2 := (hK.2 t _ (tyl_get E (by omega))).2
    rw [hty] at hNm
    have h3 : s.vm.findClass ("[" ++ (tyO t).toString) = some (eA E t) := by
      rcases (by omega : t = 0 ∨ t = 1 ∨ t = 2 ∨ t = 3) with rfl | rfl | rfl | rfl <;> exact h2
    exact Option.some.inj (hNm.symm.trans h3)
  subst hcA
  obtain ⟨hH1, ht1⟩ := hp_push C.1 hH (c := .inl (t, a0)) (H1 := H1) (by
    show H1[H.size]? = some (vp_cell (eA E t) (tA (ea E) a0))
    rw [hta, ha, e1, hty]) z1 o1
  rw [← ht1]
  exact kk l E p e s m args below meth c C H1 locs hl hH1 ls hv
theorem x_anew {t ci N idx : Nat} {i : Int32} (hd : decode (mB j) pc = .ok (.anewarray idx, 3)) (hw : Cond.classLink (mY j).cls idx (clS ci) ∈ gw) (ht : 4 ≤ t ∧ t < 7) (htc : tyO t = .object (clS ci)) (hi0 : ¬ i < 0) (hN : i.toNatClampNeg = N) (hb : N * 4 ≤ 536870912) (hk : k + 1 ≤ R.cells ∧ n + N ≤ R.slots) (kk : Wp R j Z (k + 1) (n + N) (pc + 3) lv (.ref top :: st) (va_up M top (.inl (t, N, .inr (.inr (.inr (.inr (fun _ => none))))))) (top + 1)) : Wp R j Z k n pc lv (.int i :: st) M top := by
  intro l E p e s m args below meth c C H locs hl hH ls hv
  have hts := C.2.2.2.2.2.2.1
  have hF := C.2.2.2.2.2.2.2.2.2.1
  have hK := hF.1
  have hAO : va_AO (clS ci) s := by
    obtain ⟨-, -, -, -, -, -, h1, h2, h3⟩ := hF
    rcases (by omega : t = 4 ∨ t = 5 ∨ t = 6) with rfl | rfl | rfl <;> (have h9 := FieldType.object.inj htc; rw [← h9]; assumption)
  subst hN
  refine W.anew C.2.1 C.2.2.1 C.2.2.2.2.2.1 (hts _ hw) (va_AO.use hAO) rfl hd rfl hi0 hb hk.1 hk.2 fun cA kA comp f1 f2 f3 f4 => ?_
  have hcA : cA = eA E t := by
    have h2 := (hK.2 t _ (tyl_get E ht.2)).2
    rw [htc] at h2
    obtain ⟨_, _, _, _, _, h4⟩ := h2
    exact Option.some.inj (f1.symm.trans h4)
  subst hcA
  generalize hH1 : H.push ({ cls := eA E t, slots := Array.replicate i.toNatClampNeg .null, vm := .none } : Cell) = H1
  have z1 : H1.size = H.size + 1 := by rw [← hH1, Array.size_push]
  have e1 : H1[H.size]? = some (arrV (eA E t) i.toNatClampNeg (fun _ => .null)) := by rw [← hH1, Array.getElem?_push_size, ← arrV_new]
  have o1 : ∀ q : Nat, q < H.size → H1[q]? = H[q]? := fun q hq => by rw [← hH1, Array.getElem?_push, if_neg (Nat.ne_of_lt hq)]
  obtain ⟨hH2, ht1⟩ := hp_push C.1 hH (c := .inl (t, i.toNatClampNeg, .inr (.inr (.inr (.inr (fun _ => none)))))) (H1 := H1) (by
    show H1[H.size]? = some (vp_cell (eA E t) (i.toNatClampNeg, .inr (.inr (.inr (.inr (fun _ => none))))))
    rw [vp_cell_q]; exact e1) z1 o1
  rw [← ht1]
  exact kk l E p e s m args below meth c C H1 locs hl hH2 ls hv
theorem x_objInit {idx a : Nat} (hd : decode (mB j) pc = .ok (.invokespecial idx, 3)) (hw : Cond.methodLink (mY j).cls idx objectInit ∈ gw) (hI : Cond.instanceMethod objectInit ∈ gw) (hc : Cond.code objectInit ⟨#[0xb1]⟩ 1 none ∈ gw) (hR : 1 ≤ R.frames) (hL : (st.map fun v => v.category).sum + 12 ≤ R.locals) (kk : Wp R j Z k n (pc + 3) lv st M top) : Wp R j Z k n pc lv (.ref a :: st) M top := by
  intro l E p e s m args below meth c C H locs hl hH ls hv
  have hts := C.2.2.2.2.2.2.1
  refine W.objInit C.2.1 C.2.2.1 C.2.2.2.2.2.1 (hts _ hw) (hts _ hI) (hts _ hc) rfl (by rw [C.2.2.2.2.1]; exact hv.1) rfl hd hR ?_ (kk l E p e s m args below meth c C H locs hl hH ls hv)
  have h1 : ((st.map (tv (ea E))).map fun v => v.category) = st.map fun v => v.category := by
    rw [List.map_map]; exact List.map_congr_left (fun v _ => tv_cat _ v)
  show 2 * 0 + _ + 12 ≤ _
  rw [h1]; omega
/-- what a call needs of method y, beside its link -/
def mOK (y np : Nat) : Prop := y < 197 ∧ Cond.initialized (mY y).cls ∈ gw ∧ (mY y).cls ≠ "java/lang/invoke/MethodHandle" ∧ (mY y).cls ≠ "java/lang/invoke/VarHandle" ∧ (parseMethodDescriptor (mY y).desc).map (fun d => d.parameters.length) = some np
theorem good_list {l1 : List Cond} (h : ∀ w ∈ l1, w ∈ gw) : GoodIn gw l1 := fun w hw => ⟨h w hw, gw_good (h w hw)⟩
theorem mW_in {y : Nat} (h : y < 197) : ∀ w ∈ mW y, w ∈ gw := fun w hw => by
  rcases List.mem_cons.mp hw with rfl | hw
  · exact m_code h
  · exact hw
theorem cPc_blind (E : En) (av : List Value) (M : Me) (top : Nat) : FrameBlind (cPc E av M top) := fun a U g mk h => ⟨h.1, h.2.1, eF_same (s := U) (U := U.calling g mk a) rfl h.2.2⟩
theorem st_cat (ad : Nat → Nat) (l : List Value) : ((l.map (tv ad)).map fun v => v.category) = l.map fun v => v.category := by
  rw [List.map_map]; exact List.map_congr_left (fun v _ => tv_cat _ v)
/-- behind a call -/
theorem x_back {E : En} {l : Launch} {p : Program} {e : Env} {s : State} {m : MethodId} {args : Array Value} {below : List Frame} {meth : Method} {c : Code} {H : Heap} {locs : List Loc} {mc ms : Nat} {ls : Array Slot} {st0 : List Value} {post : Po} {a : Array Value}
    (hr : va_Run p l e R s m args below meth c H locs k n mc ms (F0 m pc ls st0) (st.map (tv (ea E))) (cQc E post a) (eNew E)) (C : Cx E j p s m args meth c) (hl : ∀ q ∈ locs, eS E ≤ q.base) (hv : lv_has ls (mL j) (lv.map (tvp (ea E))))
    (kk : ∀ r M1 top1, post r M1 top1 → Wp R j Z (k + mc) (n + ms) (pc + 3) lv (r.toList ++ st) M1 top1) : W p l e R s m args below meth c H locs k n (Z E args s below) (F0 m pc ls st0) := by
  intro T hT X
  obtain ⟨v, st₀, t, T', L, h0, X', hL, e1, e2, ⟨r, M1, top1, hv1, hpost, hH1⟩, stp⟩ := hr T hT X
  have hv2 : v = r.map (tv (ea E)) := Outcome.returned.inj hv1
  subst hv2
  have hk := kk r M1 top1 hpost l E p e s m args below meth c C T'.heap (locs ++ L) (fun q hq => by
    rcases List.mem_append.mp hq with h | h
    · exact hl q h
    · exact hL q h) (by rw [e1]; exact hH1) ls hv T' rfl X'
  obtain ⟨t2, a1, b1⟩ := hk
  refine ⟨t2, stp t2 ?_, b1⟩
  have e9 : (r.toList ++ st).map (tv (ea E)) = (r.map (tv (ea E))).toList ++ st.map (tv (ea E)) := by
    rw [List.map_append]; cases r <;> rfl
  rw [e9] at a1
  exact a1
theorem x_callV {y idx a ci d mc ms np : Nat} {fs As : List Value} {post : Po} (hd : decode (mB j) pc = .ok (.invokevirtual idx, 3)) (hw : Cond.methodLink (mY j).cls idx (mY y) ∈ gw) (hok : mOK y np) (hI : Cond.instanceMethod (mY y) ∈ gw) (hSel : Cond.selects (mY y).cls (mY y) (mY y) ∈ gw) (hnp : As.length = np) (hci : ci < 10) (hcl : clS ci = (mY y).cls) (ha : 3 ≤ a ∧ a < top) (hm : M a = .inr (ci, fs)) (hrest : (st.map fun v => v.category).sum ≤ 8) (hct : Ct d mc ms y (.ref a :: As) M top post) (hR : d + 1 ≤ R.frames ∧ 8 + (mL y + 11) + 40 * d ≤ R.locals) (hf : k + mc ≤ R.cells ∧ n + ms ≤ R.slots) (kk : ∀ r M1 top1, post r M1 top1 → Wp R j Z (k + mc) (n + ms) (pc + 3) lv (r.toList ++ st) M1 top1) : Wp R j Z k n pc lv (As.reverse ++ .ref a :: st) M top := by
  intro l E p e s m args below meth c C H locs hl hH ls hv
  have hts := C.2.2.2.2.2.2.1
  have hF := C.2.2.2.2.2.2.2.2.2.1
  have hg := wl_get (E := E) (M := M) ha.1 ha.2
  rw [hm] at hg
  have hGood : GoodIn gw (wsV (mY j).cls idx (mY y).cls (mY y) (mW y)) := good_list (fun w h => by
    unfold wsV at h
    rcases List.mem_append.mp h with h | h
    · simp only [List.mem_cons, List.not_mem_nil, or_false] at h
      rcases h with rfl | rfl | rfl | rfl
      · exact hw
      · exact hI
      · exact hSel
      · exact hok.2.1
    · exact mW_in hok.1 w h)
  have cw := cwV (rm := rmd d mc ms) (mc := mc) (ms := ms) np hts hGood rfl rfl rfl ⟨rfl, hok.2.2⟩ hR
  have hrecv := va_recv hF.1 hH.1 (cl_get hci) hg
  rw [hcl] at hrecv
  refine x_back (va_runV (As := As.map (tv (ea E))) (b := ea E a) ⟨C.2.1, C.2.2.1, C.2.2.2.2.1, C.2.2.2.2.2.1, hts⟩ (hct l E C.1) cw ⟨cPc_blind _ _ _ _, hrecv, fun U hU hW => ⟨rfl, by rw [hU]; exact hH, eF_warm hW hF⟩⟩ rfl (by rw [List.length_map]; exact hnp) hv.1 ?_ (lv_room (by rw [st_cat]; exact hrest)) hd hf) C hl hv kk
  show (As.reverse ++ Value.ref a :: st).map (tv (ea E)) = _
  rw [List.map_append, List.map_reverse]; rfl
theorem x_callS {y idx d mc ms np : Nat} {As : List Value} {post : Po} (hd : decode (mB j) pc = .ok (.invokestatic idx, 3)) (hw : Cond.methodLink (mY j).cls idx (mY y) ∈ gw) (hok : mOK y np) (hI : Cond.static (mY y) ∈ gw) (hnp : As.length = np) (hrest : (st.map fun v => v.category).sum ≤ 8) (hct : Ct d mc ms y As M top post) (hR : d + 1 ≤ R.frames ∧ 8 + (mL y + 11) + 40 * d ≤ R.locals) (hf : k + mc ≤ R.cells ∧ n + ms ≤ R.slots) (kk : ∀ r M1 top1, post r M1 top1 → Wp R j Z (k + mc) (n + ms) (pc + 3) lv (r.toList ++ st) M1 top1) : Wp R j Z k n pc lv (As.reverse ++ st) M top := by
  intro l E p e s m args below meth c C H locs hl hH ls hv
  have hts := C.2.2.2.2.2.2.1
  have hF := C.2.2.2.2.2.2.2.2.2.1
  have hGood : GoodIn gw (va_wsS (mY j).cls idx (mY y) (mW y)) := good_list (fun w h => by
    unfold va_wsS at h
    rcases List.mem_append.mp h with h | h
    · simp only [List.mem_cons, List.not_mem_nil, or_false] at h
      rcases h with rfl | rfl | rfl
      · exact hw
      · exact hI
      · exact hok.2.1
    · exact mW_in hok.1 w h)
  have cw := va_cwS (rm := rmd d mc ms) (mc := mc) (ms := ms) np hts hGood rfl rfl rfl hok.2.2 hR
  refine x_back (va_runS (As := As.map (tv (ea E))) ⟨C.2.1, C.2.2.1, C.2.2.2.2.1, C.2.2.2.2.2.1, hts⟩ (hct l E C.1) cw ⟨cPc_blind _ _ _ _, fun U hU hW => ⟨rfl, by rw [hU]; exact hH, eF_warm hW hF⟩⟩ rfl (by rw [List.length_map]; exact hnp) hv.1 ?_ (lv_room (by rw [st_cat]; exact hrest)) hd hf) C hl hv kk
  show (As.reverse ++ st).map (tv (ea E)) = _
  rw [List.map_append, List.map_reverse]
theorem x_callI {y idx a d mc ms np : Nat} {As : List Value} {post : Po} (hd : decode (mB j) pc = .ok (.invokespecial idx, 3)) (hw : Cond.methodLink (mY j).cls idx (mY y) ∈ gw) (hok : mOK y np) (hI : Cond.instanceMethod (mY y) ∈ gw) (hini : (mY y).name = "<init>") (hret : mR y = none) (hnp : As.length = np) (hrest : (st.map fun v => v.category).sum ≤ 8) (hct : Ct d mc ms y (.ref a :: As) M top post) (hR : d + 1 ≤ R.frames ∧ 8 + (mL y + 11) + 40 * d ≤ R.locals) (hf : k + mc ≤ R.cells ∧ n + ms ≤ R.slots) (kk : ∀ r M1 top1, post r M1 top1 → Wp R j Z (k + mc) (n + ms) (pc + 3) lv (r.toList ++ st) M1 top1) : Wp R j Z k n pc lv (As.reverse ++ .ref a :: st) M top := by
  intro l E p e s m args below meth c C H locs hl hH ls hv
  have hts := C.2.2.2.2.2.2.1
  have hF := C.2.2.2.2.2.2.2.2.2.1
  have cw := cwI (rm := rmd d mc ms) (mc := mc) (ms := ms) (ws := mW y) (bytes := mB y) (maxL := mL y) np hts (good_list (mW_in hok.1)) (by rw [mW, hret]) rfl rfl (hts _ hok.2.1) (hts _ hw) (hts _ hI) hini hok.2.2 hR
  refine x_back (va_runI (As := As.map (tv (ea E))) (b := ea E a) ⟨C.2.1, C.2.2.1, C.2.2.2.2.1, C.2.2.2.2.2.1, hts⟩ (hct l E C.1) cw ⟨cPc_blind _ _ _ _, fun U hU hW => ⟨rfl, by rw [hU]; exact hH, eF_warm hW hF⟩⟩ rfl (by rw [List.length_map]; exact hnp) hv.1 ?_ (lv_room (by rw [st_cat]; exact hrest)) hd hf) C hl hv kk
  show (As.reverse ++ Value.ref a :: st).map (tv (ea E)) = _
  rw [List.map_append, List.map_reverse]; rfl
theorem x_callIN {y idx a d mc ms np : Nat} {host : String} {As : List Value} {post : Po} (hd : decode (mB j) pc = .ok (.invokespecial idx, 3)) (hw : Cond.methodLinkNest (mY j).cls idx (mY y) host ∈ nsw) (hok : mOK y np) (hI : Cond.instanceMethod (mY y) ∈ gw) (hini : (mY y).name = "<init>") (hret : mR y = none) (hnp : As.length = np) (hrest : (st.map fun v => v.category).sum ≤ 8) (hct : Ct d mc ms y (.ref a :: As) M top post) (hR : d + 1 ≤ R.frames ∧ 8 + (mL y + 11) + 40 * d ≤ R.locals) (hf : k + mc ≤ R.cells ∧ n + ms ≤ R.slots) (kk : ∀ r M1 top1, post r M1 top1 → Wp R j Z (k + mc) (n + ms) (pc + 3) lv (r.toList ++ st) M1 top1) : Wp R j Z k n pc lv (As.reverse ++ .ref a :: st) M top := by
  intro l E p e s m args below meth c C H locs hl hH ls hv
  have hts := C.2.2.2.2.2.2.1
  have hF := C.2.2.2.2.2.2.2.2.2.1
  have cw := va_cnB (R := R) (rm := rmd d mc ms) (mc := mc) (ms := ms) (ws := mW y) (bytes := mB y) (maxL := mL y) (ret := none) np hts (good_list (mW_in hok.1)) (by rw [mW, hret]) rfl rfl (hF.2.1 _ hw) (hts _ hok.2.1) hok.2.2 hR
  refine x_back (va_runIN (As := As.map (tv (ea E))) (b := ea E a) ⟨C.2.1, C.2.2.1, C.2.2.2.2.1, C.2.2.2.2.2.1, hts⟩ (hct l E C.1) ⟨cw, hini, hts _ hI⟩ ⟨cPc_blind _ _ _ _, fun U hU hW => ⟨rfl, by rw [hU]; exact hH, eF_warm hW hF⟩⟩ rfl (by rw [List.length_map]; exact hnp) hv.1 ?_ (lv_room (by rw [st_cat]; exact hrest)) hd hf) C hl hv kk
  show (As.reverse ++ Value.ref a :: st).map (tv (ea E)) = _
  rw [List.map_append, List.map_reverse]; rfl
/-! ends -/
theorem x_vret {post : Po} {mc ms : Nat} (hd : decode (mB j) pc = .ok (.return_, 1)) (hr : mR j = none) (hk : k ≤ mc ∧ n ≤ ms) (hp0 : post none M top) : Wp R j (mZ post mc ms) k n pc lv [] M top := by
  intro l E p e s m args below meth c C H locs hl hH ls hv
  refine W.widen hk.1 hk.2 ?_
  exact W.vret C.2.1 C.2.2.1 (C.2.2.2.1.trans hr) (fun t ht hW => ⟨none, M, top, rfl, hp0, by rw [ht]; exact hH⟩) hl hd C.2.2.2.2.2.2.2.1
theorem x_iret {post : Po} {mc ms : Nat} {v : Int32} {ty : FieldType} (hd : decode (mB j) pc = .ok (.ireturn, 1)) (hr : mR j = some ty) (hnr : narrow ty (.int v) = .int v) (hk : k ≤ mc ∧ n ≤ ms) (hp0 : post (some (.int v)) M top) : Wp R j (mZ post mc ms) k n pc lv [.int v] M top := by
  intro l E p e s m args below meth c C H locs hl hH ls hv
  refine W.widen hk.1 hk.2 ?_
  exact W.zret C.2.1 C.2.2.1 (C.2.2.2.1.trans hr) hnr (fun t ht hW => ⟨some (.int v), M, top, rfl, hp0, by rw [ht]; exact hH⟩) hl hd C.2.2.2.2.2.2.2.1
theorem x_lret {post : Po} {mc ms : Nat} {v : Int64} (hd : decode (mB j) pc = .ok (.lreturn, 1)) (hr : mR j = some .long) (hk : k ≤ mc ∧ n ≤ ms) (hp0 : post (some (.long v)) M top) : Wp R j (mZ post mc ms) k n pc lv [.long v] M top := by
  intro l E p e s m args below meth c C H locs hl hH ls hv
  refine W.widen hk.1 hk.2 ?_
  exact W.lret C.2.1 C.2.2.1 (C.2.2.2.1.trans hr) (fun t ht hW => ⟨some (.long v), M, top, rfl, hp0, by rw [ht]; exact hH⟩) hl hd C.2.2.2.2.2.2.2.1
/-! a contract says less, takes more room -/
theorem Ct.post {d mc ms y : Nat} {av : List Value} {post post' : Po} (h : Ct d mc ms y av M top post) (hpp : ∀ r M1 top1, post r M1 top1 → post' r M1 top1) : Ct d mc ms y av M top post' := by
  intro l E hE p e h1 h2 h3 s m args below hf hS hP hK
  obtain ⟨q, o, a1, a2, a3, ⟨r, M1, top1, b1, b2, b3⟩, a5⟩ := h l E hE p e h1 h2 h3 s m args below hf hS hP hK
  exact ⟨q, o, a1, a2, a3, ⟨r, M1, top1, b1, hpp r M1 top1 b2, b3⟩, a5⟩
/-! the script -/
theorem x_sld {i : Int32} {f : Nat → Int32} {L : Nat} (hd : decode (mB j) pc = .ok (.iaload, 1)) (kk : ∀ E : En, Wp R j Z k n (pc + 1) lv (.int (eX E i.toNatClampNeg) :: st) M top) (hi : ∀ E : En, vp_in i (eL E)) : Wp R j Z k n pc lv (.int i :: .ref 0 :: st) M top := by
  intro l E p e s m args below meth c C H locs hl hH ls hv
  have hF := C.2.2.2.2.2.2.2.2.2.1
  exact va_sld (A := eNew E) C.2.1 C.2.2.1 hF.2.2.2.2.2.1 (by rw [C.1.2.2]; exact C.1.2.1 0 (by decide)) (by have := C.1.2.1 0 (by decide); show ¬ eS E ≤ _; omega) (hp_S C.1 hH hl) (hi E) hd (kk E l E p e s m args below meth c C H locs hl hH ls hv)
end XC
end
