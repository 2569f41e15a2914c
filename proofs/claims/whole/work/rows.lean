section
-- ===== PART A: goes FIRST, ahead of the names: the tables' words, and 'selects' of the private methods out of them =====
/-- a private method of a class that the tables say can be made, by its rows of tables_1 -/
def lw_okq (q : MethodName × Nat) : Prop := (q.1.cls ≠ "java/lang/invoke/MethodHandle" ∧ q.1.cls ≠ "java/lang/invoke/VarHandle") ∧ Cond.instantiable q.1.cls q.2 ∈ tables_1 ∧ Cond.privateMethod q.1 ∈ tables_1 ∧ Cond.instanceMethod q.1 ∈ tables_1
theorem lw_p0 : lw_okq (⟨"CodeVerifier$Told", "kindOf", "(I)LCodeVerifier$Kind;"⟩, 4) := ⟨⟨by decide +kernel, by decide +kernel⟩, List.mem_of_getElem? (i := 22) (by decide +kernel), List.mem_of_getElem? (i := 178) (by decide +kernel), List.mem_of_getElem? (i := 179) (by decide +kernel)⟩
theorem lw_p1 : lw_okq (⟨"CodeVerifier$Walk", "begin", "(LCodeVerifier$Method;)V"⟩, 6) := ⟨⟨by decide +kernel, by decide +kernel⟩, List.mem_of_getElem? (i := 45) (by decide +kernel), List.mem_of_getElem? (i := 391) (by decide +kernel), List.mem_of_getElem? (i := 392) (by decide +kernel)⟩
theorem lw_p2 : lw_okq (⟨"CodeVerifier$Walk", "come", "(LCodeVerifier$Method;II)V"⟩, 6) := ⟨⟨by decide +kernel, by decide +kernel⟩, List.mem_of_getElem? (i := 45) (by decide +kernel), List.mem_of_getElem? (i := 404) (by decide +kernel), List.mem_of_getElem? (i := 405) (by decide +kernel)⟩
theorem lw_p3 : lw_okq (⟨"CodeVerifier$Walk", "mark", "(LCodeVerifier$Instruction;I)V"⟩, 6) := ⟨⟨by decide +kernel, by decide +kernel⟩, List.mem_of_getElem? (i := 45) (by decide +kernel), List.mem_of_getElem? (i := 412) (by decide +kernel), List.mem_of_getElem? (i := 413) (by decide +kernel)⟩
theorem lw_p4 : lw_okq (⟨"CodeVerifier$Walk", "leastMarked", "(LCodeVerifier$Method;)I"⟩, 6) := ⟨⟨by decide +kernel, by decide +kernel⟩, List.mem_of_getElem? (i := 45) (by decide +kernel), List.mem_of_getElem? (i := 434) (by decide +kernel), List.mem_of_getElem? (i := 435) (by decide +kernel)⟩
theorem lw_p5 : lw_okq (⟨"CodeVerifier$Walk", "lookAt", "(LCodeVerifier$Method;I)V"⟩, 6) := ⟨⟨by decide +kernel, by decide +kernel⟩, List.mem_of_getElem? (i := 45) (by decide +kernel), List.mem_of_getElem? (i := 438) (by decide +kernel), List.mem_of_getElem? (i := 439) (by decide +kernel)⟩
theorem lw_p6 : lw_okq (⟨"CodeVerifier$Walk", "comeToHandlers", "(LCodeVerifier$Method;ILCodeVerifier$Instruction;)V"⟩, 6) := ⟨⟨by decide +kernel, by decide +kernel⟩, List.mem_of_getElem? (i := 45) (by decide +kernel), List.mem_of_getElem? (i := 442) (by decide +kernel), List.mem_of_getElem? (i := 443) (by decide +kernel)⟩
theorem lw_p7 : lw_okq (⟨"CodeVerifier$Step", "move", "(LCodeVerifier$Instruction;)V"⟩, 3) := ⟨⟨by decide +kernel, by decide +kernel⟩, List.mem_of_getElem? (i := 74) (by decide +kernel), List.mem_of_getElem? (i := 462) (by decide +kernel), List.mem_of_getElem? (i := 463) (by decide +kernel)⟩
theorem lw_p8 : lw_okq (⟨"CodeVerifier$Step", "put", "(I)V"⟩, 3) := ⟨⟨by decide +kernel, by decide +kernel⟩, List.mem_of_getElem? (i := 74) (by decide +kernel), List.mem_of_getElem? (i := 466) (by decide +kernel), List.mem_of_getElem? (i := 467) (by decide +kernel)⟩
theorem lw_p9 : lw_okq (⟨"CodeVerifier$Step", "need", "(Z)V"⟩, 3) := ⟨⟨by decide +kernel, by decide +kernel⟩, List.mem_of_getElem? (i := 74) (by decide +kernel), List.mem_of_getElem? (i := 471) (by decide +kernel), List.mem_of_getElem? (i := 472) (by decide +kernel)⟩
theorem lw_p10 : lw_okq (⟨"CodeVerifier$Step", "load", "(I)V"⟩, 3) := ⟨⟨by decide +kernel, by decide +kernel⟩, List.mem_of_getElem? (i := 74) (by decide +kernel), List.mem_of_getElem? (i := 475) (by decide +kernel), List.mem_of_getElem? (i := 476) (by decide +kernel)⟩
theorem lw_p11 : lw_okq (⟨"CodeVerifier$Step", "take", "()I"⟩, 3) := ⟨⟨by decide +kernel, by decide +kernel⟩, List.mem_of_getElem? (i := 74) (by decide +kernel), List.mem_of_getElem? (i := 483) (by decide +kernel), List.mem_of_getElem? (i := 484) (by decide +kernel)⟩
theorem lw_p12 : lw_okq (⟨"CodeVerifier$Step", "duplicate", "()V"⟩, 3) := ⟨⟨by decide +kernel, by decide +kernel⟩, List.mem_of_getElem? (i := 74) (by decide +kernel), List.mem_of_getElem? (i := 495) (by decide +kernel), List.mem_of_getElem? (i := 496) (by decide +kernel)⟩
theorem lw_p13 : lw_okq (⟨"CodeVerifier$Step", "swap", "()V"⟩, 3) := ⟨⟨by decide +kernel, by decide +kernel⟩, List.mem_of_getElem? (i := 74) (by decide +kernel), List.mem_of_getElem? (i := 499) (by decide +kernel), List.mem_of_getElem? (i := 500) (by decide +kernel)⟩
theorem lw_p14 : lw_okq (⟨"CodeVerifier$Step", "reckon", "(I)V"⟩, 3) := ⟨⟨by decide +kernel, by decide +kernel⟩, List.mem_of_getElem? (i := 74) (by decide +kernel), List.mem_of_getElem? (i := 503) (by decide +kernel), List.mem_of_getElem? (i := 504) (by decide +kernel)⟩
theorem lw_p15 : lw_okq (⟨"CodeVerifier$Step", "takeInt", "()V"⟩, 3) := ⟨⟨by decide +kernel, by decide +kernel⟩, List.mem_of_getElem? (i := 74) (by decide +kernel), List.mem_of_getElem? (i := 507) (by decide +kernel), List.mem_of_getElem? (i := 508) (by decide +kernel)⟩
def lw_privs_1 : List (MethodName × Nat) := [(⟨"CodeVerifier$Told", "kindOf", "(I)LCodeVerifier$Kind;"⟩, 4), (⟨"CodeVerifier$Walk", "begin", "(LCodeVerifier$Method;)V"⟩, 6), (⟨"CodeVerifier$Walk", "come", "(LCodeVerifier$Method;II)V"⟩, 6), (⟨"CodeVerifier$Walk", "mark", "(LCodeVerifier$Instruction;I)V"⟩, 6), (⟨"CodeVerifier$Walk", "leastMarked", "(LCodeVerifier$Method;)I"⟩, 6), (⟨"CodeVerifier$Walk", "lookAt", "(LCodeVerifier$Method;I)V"⟩, 6), (⟨"CodeVerifier$Walk", "comeToHandlers", "(LCodeVerifier$Method;ILCodeVerifier$Instruction;)V"⟩, 6), (⟨"CodeVerifier$Step", "move", "(LCodeVerifier$Instruction;)V"⟩, 3), (⟨"CodeVerifier$Step", "put", "(I)V"⟩, 3), (⟨"CodeVerifier$Step", "need", "(Z)V"⟩, 3), (⟨"CodeVerifier$Step", "load", "(I)V"⟩, 3), (⟨"CodeVerifier$Step", "take", "()I"⟩, 3), (⟨"CodeVerifier$Step", "duplicate", "()V"⟩, 3), (⟨"CodeVerifier$Step", "swap", "()V"⟩, 3), (⟨"CodeVerifier$Step", "reckon", "(I)V"⟩, 3), (⟨"CodeVerifier$Step", "takeInt", "()V"⟩, 3)]
theorem lw_r1 : ∀ q ∈ lw_privs_1, lw_okq q := List.forall_mem_cons.mpr ⟨lw_p0, List.forall_mem_cons.mpr ⟨lw_p1, List.forall_mem_cons.mpr ⟨lw_p2, List.forall_mem_cons.mpr ⟨lw_p3, List.forall_mem_cons.mpr ⟨lw_p4, List.forall_mem_cons.mpr ⟨lw_p5, List.forall_mem_cons.mpr ⟨lw_p6, List.forall_mem_cons.mpr ⟨lw_p7, List.forall_mem_cons.mpr ⟨lw_p8, List.forall_mem_cons.mpr ⟨lw_p9, List.forall_mem_cons.mpr ⟨lw_p10, List.forall_mem_cons.mpr ⟨lw_p11, List.forall_mem_cons.mpr ⟨lw_p12, List.forall_mem_cons.mpr ⟨lw_p13, List.forall_mem_cons.mpr ⟨lw_p14, List.forall_mem_cons.mpr ⟨lw_p15, fun _ h => absurd h List.not_mem_nil⟩⟩⟩⟩⟩⟩⟩⟩⟩⟩⟩⟩⟩⟩⟩⟩
theorem lw_p16 : lw_okq (⟨"CodeVerifier$Step", "branch", "(I)V"⟩, 3) := ⟨⟨by decide +kernel, by decide +kernel⟩, List.mem_of_getElem? (i := 74) (by decide +kernel), List.mem_of_getElem? (i := 511) (by decide +kernel), List.mem_of_getElem? (i := 512) (by decide +kernel)⟩
theorem lw_p17 : lw_okq (⟨"CodeVerifier$Step", "takeReference", "()V"⟩, 3) := ⟨⟨by decide +kernel, by decide +kernel⟩, List.mem_of_getElem? (i := 74) (by decide +kernel), List.mem_of_getElem? (i := 515) (by decide +kernel), List.mem_of_getElem? (i := 516) (by decide +kernel)⟩
theorem lw_p18 : lw_okq (⟨"CodeVerifier$Step", "useObject", "(LCodeVerifier$Instruction;)V"⟩, 3) := ⟨⟨by decide +kernel, by decide +kernel⟩, List.mem_of_getElem? (i := 74) (by decide +kernel), List.mem_of_getElem? (i := 520) (by decide +kernel), List.mem_of_getElem? (i := 521) (by decide +kernel)⟩
theorem lw_p19 : lw_okq (⟨"CodeVerifier$Step", "takeInto", "(I)V"⟩, 3) := ⟨⟨by decide +kernel, by decide +kernel⟩, List.mem_of_getElem? (i := 74) (by decide +kernel), List.mem_of_getElem? (i := 524) (by decide +kernel), List.mem_of_getElem? (i := 525) (by decide +kernel)⟩
theorem lw_p20 : lw_okq (⟨"CodeVerifier$Step", "useRow", "(LCodeVerifier$Instruction;)V"⟩, 3) := ⟨⟨by decide +kernel, by decide +kernel⟩, List.mem_of_getElem? (i := 74) (by decide +kernel), List.mem_of_getElem? (i := 537) (by decide +kernel), List.mem_of_getElem? (i := 538) (by decide +kernel)⟩
theorem lw_p21 : lw_okq (⟨"CodeVerifier$Step", "takeRow", "()I"⟩, 3) := ⟨⟨by decide +kernel, by decide +kernel⟩, List.mem_of_getElem? (i := 74) (by decide +kernel), List.mem_of_getElem? (i := 544) (by decide +kernel), List.mem_of_getElem? (i := 545) (by decide +kernel)⟩
theorem lw_p22 : lw_okq (⟨"CodeVerifier$Step", "invoke", "(LCodeVerifier$Instruction;)V"⟩, 3) := ⟨⟨by decide +kernel, by decide +kernel⟩, List.mem_of_getElem? (i := 74) (by decide +kernel), List.mem_of_getElem? (i := 550) (by decide +kernel), List.mem_of_getElem? (i := 551) (by decide +kernel)⟩
theorem lw_p23 : lw_okq (⟨"CodeVerifier$Step", "leaveOrTalk", "(LCodeVerifier$Method;I)V"⟩, 3) := ⟨⟨by decide +kernel, by decide +kernel⟩, List.mem_of_getElem? (i := 74) (by decide +kernel), List.mem_of_getElem? (i := 557) (by decide +kernel), List.mem_of_getElem? (i := 558) (by decide +kernel)⟩
theorem lw_p24 : lw_okq (⟨"CodeVerifierModel", "isClass", "(I)Z"⟩, 32) := ⟨⟨by decide +kernel, by decide +kernel⟩, List.mem_of_getElem? (i := 583) (by decide +kernel), List.mem_of_getElem? (i := 692) (by decide +kernel), List.mem_of_getElem? (i := 693) (by decide +kernel)⟩
theorem lw_p25 : lw_okq (⟨"CodeVerifierModel", "isType", "(I)Z"⟩, 32) := ⟨⟨by decide +kernel, by decide +kernel⟩, List.mem_of_getElem? (i := 583) (by decide +kernel), List.mem_of_getElem? (i := 700) (by decide +kernel), List.mem_of_getElem? (i := 701) (by decide +kernel)⟩
theorem lw_p26 : lw_okq (⟨"CodeVerifierModel", "isMethod", "(I)Z"⟩, 32) := ⟨⟨by decide +kernel, by decide +kernel⟩, List.mem_of_getElem? (i := 583) (by decide +kernel), List.mem_of_getElem? (i := 712) (by decide +kernel), List.mem_of_getElem? (i := 713) (by decide +kernel)⟩
theorem lw_p27 : lw_okq (⟨"CodeVerifierModel", "isLike", "(II)Z"⟩, 32) := ⟨⟨by decide +kernel, by decide +kernel⟩, List.mem_of_getElem? (i := 583) (by decide +kernel), List.mem_of_getElem? (i := 720) (by decide +kernel), List.mem_of_getElem? (i := 721) (by decide +kernel)⟩
theorem lw_p28 : lw_okq (⟨"CodeVerifierModel", "isGood", "(IIII)Z"⟩, 32) := ⟨⟨by decide +kernel, by decide +kernel⟩, List.mem_of_getElem? (i := 583) (by decide +kernel), List.mem_of_getElem? (i := 728) (by decide +kernel), List.mem_of_getElem? (i := 729) (by decide +kernel)⟩
theorem lw_p29 : lw_okq (⟨"CodeVerifierModel", "come", "(II)Z"⟩, 32) := ⟨⟨by decide +kernel, by decide +kernel⟩, List.mem_of_getElem? (i := 583) (by decide +kernel), List.mem_of_getElem? (i := 740) (by decide +kernel), List.mem_of_getElem? (i := 741) (by decide +kernel)⟩
theorem lw_p30 : lw_okq (⟨"CodeVerifierModel", "meet", "(II)I"⟩, 32) := ⟨⟨by decide +kernel, by decide +kernel⟩, List.mem_of_getElem? (i := 583) (by decide +kernel), List.mem_of_getElem? (i := 744) (by decide +kernel), List.mem_of_getElem? (i := 745) (by decide +kernel)⟩
theorem lw_p31 : lw_okq (⟨"CodeVerifierModel", "isUnder", "(II)Z"⟩, 32) := ⟨⟨by decide +kernel, by decide +kernel⟩, List.mem_of_getElem? (i := 583) (by decide +kernel), List.mem_of_getElem? (i := 754) (by decide +kernel), List.mem_of_getElem? (i := 755) (by decide +kernel)⟩
def lw_privs_2 : List (MethodName × Nat) := [(⟨"CodeVerifier$Step", "branch", "(I)V"⟩, 3), (⟨"CodeVerifier$Step", "takeReference", "()V"⟩, 3), (⟨"CodeVerifier$Step", "useObject", "(LCodeVerifier$Instruction;)V"⟩, 3), (⟨"CodeVerifier$Step", "takeInto", "(I)V"⟩, 3), (⟨"CodeVerifier$Step", "useRow", "(LCodeVerifier$Instruction;)V"⟩, 3), (⟨"CodeVerifier$Step", "takeRow", "()I"⟩, 3), (⟨"CodeVerifier$Step", "invoke", "(LCodeVerifier$Instruction;)V"⟩, 3), (⟨"CodeVerifier$Step", "leaveOrTalk", "(LCodeVerifier$Method;I)V"⟩, 3), (⟨"CodeVerifierModel", "isClass", "(I)Z"⟩, 32), (⟨"CodeVerifierModel", "isType", "(I)Z"⟩, 32), (⟨"CodeVerifierModel", "isMethod", "(I)Z"⟩, 32), (⟨"CodeVerifierModel", "isLike", "(II)Z"⟩, 32), (⟨"CodeVerifierModel", "isGood", "(IIII)Z"⟩, 32), (⟨"CodeVerifierModel", "come", "(II)Z"⟩, 32), (⟨"CodeVerifierModel", "meet", "(II)I"⟩, 32), (⟨"CodeVerifierModel", "isUnder", "(II)Z"⟩, 32)]
theorem lw_r2 : ∀ q ∈ lw_privs_2, lw_okq q := List.forall_mem_cons.mpr ⟨lw_p16, List.forall_mem_cons.mpr ⟨lw_p17, List.forall_mem_cons.mpr ⟨lw_p18, List.forall_mem_cons.mpr ⟨lw_p19, List.forall_mem_cons.mpr ⟨lw_p20, List.forall_mem_cons.mpr ⟨lw_p21, List.forall_mem_cons.mpr ⟨lw_p22, List.forall_mem_cons.mpr ⟨lw_p23, List.forall_mem_cons.mpr ⟨lw_p24, List.forall_mem_cons.mpr ⟨lw_p25, List.forall_mem_cons.mpr ⟨lw_p26, List.forall_mem_cons.mpr ⟨lw_p27, List.forall_mem_cons.mpr ⟨lw_p28, List.forall_mem_cons.mpr ⟨lw_p29, List.forall_mem_cons.mpr ⟨lw_p30, List.forall_mem_cons.mpr ⟨lw_p31, fun _ h => absurd h List.not_mem_nil⟩⟩⟩⟩⟩⟩⟩⟩⟩⟩⟩⟩⟩⟩⟩⟩
theorem lw_p32 : lw_okq (⟨"CodeVerifierModel", "step", "(II)Z"⟩, 32) := ⟨⟨by decide +kernel, by decide +kernel⟩, List.mem_of_getElem? (i := 583) (by decide +kernel), List.mem_of_getElem? (i := 758) (by decide +kernel), List.mem_of_getElem? (i := 759) (by decide +kernel)⟩
theorem lw_p33 : lw_okq (⟨"CodeVerifierModel", "takeUp", "(II)V"⟩, 32) := ⟨⟨by decide +kernel, by decide +kernel⟩, List.mem_of_getElem? (i := 583) (by decide +kernel), List.mem_of_getElem? (i := 762) (by decide +kernel), List.mem_of_getElem? (i := 763) (by decide +kernel)⟩
theorem lw_p34 : lw_okq (⟨"CodeVerifierModel", "push", "(I)Z"⟩, 32) := ⟨⟨by decide +kernel, by decide +kernel⟩, List.mem_of_getElem? (i := 583) (by decide +kernel), List.mem_of_getElem? (i := 766) (by decide +kernel), List.mem_of_getElem? (i := 767) (by decide +kernel)⟩
theorem lw_p35 : lw_okq (⟨"CodeVerifierModel", "fits", "(IIII)Z"⟩, 32) := ⟨⟨by decide +kernel, by decide +kernel⟩, List.mem_of_getElem? (i := 583) (by decide +kernel), List.mem_of_getElem? (i := 770) (by decide +kernel), List.mem_of_getElem? (i := 771) (by decide +kernel)⟩
theorem lw_p36 : lw_okq (⟨"CodeVerifierModel", "places", "(III)Z"⟩, 32) := ⟨⟨by decide +kernel, by decide +kernel⟩, List.mem_of_getElem? (i := 583) (by decide +kernel), List.mem_of_getElem? (i := 774) (by decide +kernel), List.mem_of_getElem? (i := 775) (by decide +kernel)⟩
theorem lw_p37 : lw_okq (⟨"CodeVerifierModel", "pop", "()I"⟩, 32) := ⟨⟨by decide +kernel, by decide +kernel⟩, List.mem_of_getElem? (i := 583) (by decide +kernel), List.mem_of_getElem? (i := 778) (by decide +kernel), List.mem_of_getElem? (i := 779) (by decide +kernel)⟩
theorem lw_p38 : lw_okq (⟨"CodeVerifierModel", "ints", "(I)Z"⟩, 32) := ⟨⟨by decide +kernel, by decide +kernel⟩, List.mem_of_getElem? (i := 583) (by decide +kernel), List.mem_of_getElem? (i := 782) (by decide +kernel), List.mem_of_getElem? (i := 783) (by decide +kernel)⟩
theorem lw_p39 : lw_okq (⟨"CodeVerifierModel", "popReference", "()Z"⟩, 32) := ⟨⟨by decide +kernel, by decide +kernel⟩, List.mem_of_getElem? (i := 583) (by decide +kernel), List.mem_of_getElem? (i := 786) (by decide +kernel), List.mem_of_getElem? (i := 787) (by decide +kernel)⟩
theorem lw_p40 : lw_okq (⟨"CodeVerifierModel", "popInto", "(I)Z"⟩, 32) := ⟨⟨by decide +kernel, by decide +kernel⟩, List.mem_of_getElem? (i := 583) (by decide +kernel), List.mem_of_getElem? (i := 790) (by decide +kernel), List.mem_of_getElem? (i := 791) (by decide +kernel)⟩
theorem lw_p41 : lw_okq (⟨"CodeVerifierModel", "goes", "(II)Z"⟩, 32) := ⟨⟨by decide +kernel, by decide +kernel⟩, List.mem_of_getElem? (i := 583) (by decide +kernel), List.mem_of_getElem? (i := 794) (by decide +kernel), List.mem_of_getElem? (i := 795) (by decide +kernel)⟩
theorem lw_p42 : lw_okq (⟨"CodeVerifierModel", "parameters", "(II)Z"⟩, 32) := ⟨⟨by decide +kernel, by decide +kernel⟩, List.mem_of_getElem? (i := 583) (by decide +kernel), List.mem_of_getElem? (i := 798) (by decide +kernel), List.mem_of_getElem? (i := 799) (by decide +kernel)⟩
theorem lw_p43 : lw_okq (⟨"CodeVerifierModel", "given", "(I)Z"⟩, 32) := ⟨⟨by decide +kernel, by decide +kernel⟩, List.mem_of_getElem? (i := 583) (by decide +kernel), List.mem_of_getElem? (i := 802) (by decide +kernel), List.mem_of_getElem? (i := 803) (by decide +kernel)⟩
theorem lw_p44 : lw_okq (⟨"CodeVerifierModel", "rows", "(II)Z"⟩, 32) := ⟨⟨by decide +kernel, by decide +kernel⟩, List.mem_of_getElem? (i := 583) (by decide +kernel), List.mem_of_getElem? (i := 806) (by decide +kernel), List.mem_of_getElem? (i := 807) (by decide +kernel)⟩
def lw_privs_3 : List (MethodName × Nat) := [(⟨"CodeVerifierModel", "step", "(II)Z"⟩, 32), (⟨"CodeVerifierModel", "takeUp", "(II)V"⟩, 32), (⟨"CodeVerifierModel", "push", "(I)Z"⟩, 32), (⟨"CodeVerifierModel", "fits", "(IIII)Z"⟩, 32), (⟨"CodeVerifierModel", "places", "(III)Z"⟩, 32), (⟨"CodeVerifierModel", "pop", "()I"⟩, 32), (⟨"CodeVerifierModel", "ints", "(I)Z"⟩, 32), (⟨"CodeVerifierModel", "popReference", "()Z"⟩, 32), (⟨"CodeVerifierModel", "popInto", "(I)Z"⟩, 32), (⟨"CodeVerifierModel", "goes", "(II)Z"⟩, 32), (⟨"CodeVerifierModel", "parameters", "(II)Z"⟩, 32), (⟨"CodeVerifierModel", "given", "(I)Z"⟩, 32), (⟨"CodeVerifierModel", "rows", "(II)Z"⟩, 32)]
theorem lw_r3 : ∀ q ∈ lw_privs_3, lw_okq q := List.forall_mem_cons.mpr ⟨lw_p32, List.forall_mem_cons.mpr ⟨lw_p33, List.forall_mem_cons.mpr ⟨lw_p34, List.forall_mem_cons.mpr ⟨lw_p35, List.forall_mem_cons.mpr ⟨lw_p36, List.forall_mem_cons.mpr ⟨lw_p37, List.forall_mem_cons.mpr ⟨lw_p38, List.forall_mem_cons.mpr ⟨lw_p39, List.forall_mem_cons.mpr ⟨lw_p40, List.forall_mem_cons.mpr ⟨lw_p41, List.forall_mem_cons.mpr ⟨lw_p42, List.forall_mem_cons.mpr ⟨lw_p43, List.forall_mem_cons.mpr ⟨lw_p44, fun _ h => absurd h List.not_mem_nil⟩⟩⟩⟩⟩⟩⟩⟩⟩⟩⟩⟩⟩
def lw_privs : List (MethodName × Nat) := lw_privs_1 ++ (lw_privs_2 ++ (lw_privs_3))
def lw_tbl : List Cond := k2_sels lw_privs ++ tables_1
theorem lw_privs_ok : ∀ q ∈ lw_privs, lw_okq q := by
  show ∀ q ∈ lw_privs_1 ++ (lw_privs_2 ++ (lw_privs_3)), lw_okq q
  exact List.forall_mem_append.mpr ⟨lw_r1, List.forall_mem_append.mpr ⟨lw_r2, lw_r3⟩⟩
end
section
def RX0 : String := "CodeVerifier$Handler"
def TX0 : u_T := fun k => match k with
  | 0 => ("CodeVerifier$Handler", "from", "I", true)
  | 1 => ("CodeVerifier$Handler", "to", "I", true)
  | 2 => ("CodeVerifier$Handler", "kind", "I", true)
  | _ => ("CodeVerifier$Handler", "place", "I", true)
def tyX0 : Nat → FieldType := fun k => match k with
  | 0 => .int
  | 1 => .int
  | 2 => .int
  | _ => .int
theorem nmX0 : ∀ a, a < 4 → ∀ b, b < 4 → a ≠ b → (TX0 a).2.1 ≠ (TX0 b).2.1 := by decide +kernel
theorem tyX0_ok : ∀ k, k < 4 → parseFieldDescriptor (TX0 k).2.2.1 = some (tyX0 k) := by decide +kernel
abbrev cX0_init : ByteArray := prog_2_method_1_code
def yX0_init : MethodName := ⟨RX0, "<init>", "(IIII)V"⟩
abbrev cX0_covers : ByteArray := prog_2_method_2_code
def yX0_covers : MethodName := ⟨RX0, "covers", "(I)Z"⟩
def RX1 : String := "CodeVerifier$Instruction"
def TX1 : u_T := fun k => match k with
  | 0 => ("CodeVerifier$Instruction", "op", "I", true)
  | 1 => ("CodeVerifier$Instruction", "x", "I", true)
  | 2 => ("CodeVerifier$Instruction", "y", "I", true)
  | 3 => ("CodeVerifier$Instruction", "before", "LCodeVerifier$Row;", true)
  | 4 => ("CodeVerifier$Instruction", "isReached", "Z", false)
  | _ => ("CodeVerifier$Instruction", "isMarked", "Z", false)
def tyX1 : Nat → FieldType := fun k => match k with
  | 0 => .int
  | 1 => .int
  | 2 => .int
  | 3 => .object "CodeVerifier$Row"
  | 4 => .boolean
  | _ => .boolean
theorem nmX1 : ∀ a, a < 6 → ∀ b, b < 6 → a ≠ b → (TX1 a).2.1 ≠ (TX1 b).2.1 := by decide +kernel
theorem tyX1_ok : ∀ k, k < 6 → parseFieldDescriptor (TX1 k).2.2.1 = some (tyX1 k) := by decide +kernel
abbrev cX1_init : ByteArray := prog_3_method_1_code
def yX1_init : MethodName := ⟨RX1, "<init>", "(III)V"⟩
abbrev cX1_isJump : ByteArray := prog_3_method_2_code
def yX1_isJump : MethodName := ⟨RX1, "isJump", "()Z"⟩
abbrev cX1_goesOnBehind : ByteArray := prog_3_method_3_code
def yX1_goesOnBehind : MethodName := ⟨RX1, "goesOnBehind", "()Z"⟩
def RX2 : String := "CodeVerifier$Kind"
def TX2 : u_T := fun k => match k with
  | 0 => ("CodeVerifier$Kind", "number", "I", true)
  | 1 => ("CodeVerifier$Kind", "line", "I", true)
  | 2 => ("CodeVerifier$Kind", "fields", "[I", true)
  | 3 => ("CodeVerifier$Kind", "slots", "[I", true)
  | 4 => ("CodeVerifier$Kind", "fieldCount", "I", false)
  | 5 => ("CodeVerifier$Kind", "isAboveAnother", "Z", false)
  | _ => ("CodeVerifier$Kind", "isOwner", "Z", false)
def tyX2 : Nat → FieldType := fun k => match k with
  | 0 => .int
  | 1 => .int
  | 2 => .array .int
  | 3 => .array .int
  | 4 => .int
  | 5 => .boolean
  | _ => .boolean
theorem nmX2 : ∀ a, a < 7 → ∀ b, b < 7 → a ≠ b → (TX2 a).2.1 ≠ (TX2 b).2.1 := by decide +kernel
theorem tyX2_ok : ∀ k, k < 7 → parseFieldDescriptor (TX2 k).2.2.1 = some (tyX2 k) := by decide +kernel
abbrev cX2_init : ByteArray := prog_4_method_1_code
def yX2_init : MethodName := ⟨RX2, "<init>", "(ILCodeVerifier$Kind;)V"⟩
abbrev cX2_asType : ByteArray := prog_4_method_2_code
def yX2_asType : MethodName := ⟨RX2, "asType", "()I"⟩
abbrev cX2_isOrIsUnder : ByteArray := prog_4_method_3_code
def yX2_isOrIsUnder : MethodName := ⟨RX2, "isOrIsUnder", "(I)Z"⟩
abbrev cX2_addField : ByteArray := prog_4_method_4_code
def yX2_addField : MethodName := ⟨RX2, "addField", "(I)I"⟩
abbrev cX2_fieldType : ByteArray := prog_4_method_5_code
def yX2_fieldType : MethodName := ⟨RX2, "fieldType", "(I)I"⟩
abbrev cX2_inSlot : ByteArray := prog_4_method_6_code
def yX2_inSlot : MethodName := ⟨RX2, "inSlot", "(I)I"⟩
def RX3 : String := "CodeVerifier$Method"
def TX3 : u_T := fun k => match k with
  | 0 => ("CodeVerifier$Method", "owner", "LCodeVerifier$Kind;", true)
  | 1 => ("CodeVerifier$Method", "gives", "I", true)
  | 2 => ("CodeVerifier$Method", "locals", "I", true)
  | 3 => ("CodeVerifier$Method", "stack", "I", true)
  | 4 => ("CodeVerifier$Method", "parameters", "[I", true)
  | 5 => ("CodeVerifier$Method", "instructions", "[LCodeVerifier$Instruction;", true)
  | 6 => ("CodeVerifier$Method", "handlers", "[LCodeVerifier$Handler;", true)
  | 7 => ("CodeVerifier$Method", "parameterCount", "I", false)
  | 8 => ("CodeVerifier$Method", "instructionCount", "I", false)
  | 9 => ("CodeVerifier$Method", "handlerCount", "I", false)
  | 10 => ("CodeVerifier$Method", "stoodInSlot", "Z", false)
  | _ => ("CodeVerifier$Method", "isVerified", "Z", false)
def tyX3 : Nat → FieldType := fun k => match k with
  | 0 => .object "CodeVerifier$Kind"
  | 1 => .int
  | 2 => .int
  | 3 => .int
  | 4 => .array .int
  | 5 => .array (.object "CodeVerifier$Instruction")
  | 6 => .array (.object "CodeVerifier$Handler")
  | 7 => .int
  | 8 => .int
  | 9 => .int
  | 10 => .boolean
  | _ => .boolean
theorem nmX3 : ∀ a, a < 12 → ∀ b, b < 12 → a ≠ b → (TX3 a).2.1 ≠ (TX3 b).2.1 := by decide +kernel
theorem tyX3_ok : ∀ k, k < 12 → parseFieldDescriptor (TX3 k).2.2.1 = some (tyX3 k) := by decide +kernel
abbrev cX3_init : ByteArray := prog_5_method_1_code
def yX3_init : MethodName := ⟨RX3, "<init>", "(LCodeVerifier$Kind;III)V"⟩
abbrev cX3_isOpenForParameters : ByteArray := prog_5_method_2_code
def yX3_isOpenForParameters : MethodName := ⟨RX3, "isOpenForParameters", "()Z"⟩
abbrev cX3_addParameter : ByteArray := prog_5_method_3_code
def yX3_addParameter : MethodName := ⟨RX3, "addParameter", "(I)I"⟩
abbrev cX3_parameterAt : ByteArray := prog_5_method_4_code
def yX3_parameterAt : MethodName := ⟨RX3, "parameterAt", "(I)I"⟩
abbrev cX3_isCalledLike : ByteArray := prog_5_method_5_code
def yX3_isCalledLike : MethodName := ⟨RX3, "isCalledLike", "(LCodeVerifier$Method;)Z"⟩
abbrev cX3_addInstruction : ByteArray := prog_5_method_6_code
def yX3_addInstruction : MethodName := ⟨RX3, "addInstruction", "(III)I"⟩
abbrev cX3_instructionAt : ByteArray := prog_5_method_7_code
def yX3_instructionAt : MethodName := ⟨RX3, "instructionAt", "(I)LCodeVerifier$Instruction;"⟩
abbrev cX3_addHandler : ByteArray := prog_5_method_8_code
def yX3_addHandler : MethodName := ⟨RX3, "addHandler", "(IIII)I"⟩
abbrev cX3_handlerAt : ByteArray := prog_5_method_9_code
def yX3_handlerAt : MethodName := ⟨RX3, "handlerAt", "(I)LCodeVerifier$Handler;"⟩
def RX4 : String := "CodeVerifier$Row"
def TX4 : u_T := fun k => match k with
  | 0 => ("CodeVerifier$Row", "types", "[I", true)
  | 1 => ("CodeVerifier$Row", "locals", "I", false)
  | 2 => ("CodeVerifier$Row", "places", "I", false)
  | _ => ("CodeVerifier$Row", "height", "I", false)
def tyX4 : Nat → FieldType := fun k => match k with
  | 0 => .array .int
  | 1 => .int
  | 2 => .int
  | _ => .int
theorem nmX4 : ∀ a, a < 4 → ∀ b, b < 4 → a ≠ b → (TX4 a).2.1 ≠ (TX4 b).2.1 := by decide +kernel
theorem tyX4_ok : ∀ k, k < 4 → parseFieldDescriptor (TX4 k).2.2.1 = some (tyX4 k) := by decide +kernel
abbrev cX4_init : ByteArray := prog_6_method_1_code
def yX4_init : MethodName := ⟨RX4, "<init>", "()V"⟩
abbrev cX4_begin : ByteArray := prog_6_method_2_code
def yX4_begin : MethodName := ⟨RX4, "begin", "(LCodeVerifier$Method;)V"⟩
abbrev cX4_copy : ByteArray := prog_6_method_3_code
def yX4_copy : MethodName := ⟨RX4, "copy", "(LCodeVerifier$Row;)V"⟩
abbrev cX4_localAt : ByteArray := prog_6_method_4_code
def yX4_localAt : MethodName := ⟨RX4, "localAt", "(I)I"⟩
abbrev cX4_setLocal : ByteArray := prog_6_method_5_code
def yX4_setLocal : MethodName := ⟨RX4, "setLocal", "(II)V"⟩
abbrev cX4_placeAt : ByteArray := prog_6_method_6_code
def yX4_placeAt : MethodName := ⟨RX4, "placeAt", "(I)I"⟩
abbrev cX4_put : ByteArray := prog_6_method_7_code
def yX4_put : MethodName := ⟨RX4, "put", "(I)Z"⟩
abbrev cX4_meet : ByteArray := prog_6_method_8_code
def yX4_meet : MethodName := ⟨RX4, "meet", "(LCodeVerifier$Row;LCodeVerifier$Told;)I"⟩
def RX5 : String := "CodeVerifier$Step"
def TX5 : u_T := fun k => match k with
  | 0 => ("CodeVerifier$Step", "told", "LCodeVerifier$Told;", true)
  | 1 => ("CodeVerifier$Step", "row", "LCodeVerifier$Row;", true)
  | _ => ("CodeVerifier$Step", "fits", "Z", false)
def tyX5 : Nat → FieldType := fun k => match k with
  | 0 => .object "CodeVerifier$Told"
  | 1 => .object "CodeVerifier$Row"
  | _ => .boolean
theorem nmX5 : ∀ a, a < 3 → ∀ b, b < 3 → a ≠ b → (TX5 a).2.1 ≠ (TX5 b).2.1 := by decide +kernel
theorem tyX5_ok : ∀ k, k < 3 → parseFieldDescriptor (TX5 k).2.2.1 = some (tyX5 k) := by decide +kernel
abbrev cX5_init : ByteArray := prog_7_method_1_code
def yX5_init : MethodName := ⟨RX5, "<init>", "(LCodeVerifier$Told;LCodeVerifier$Row;)V"⟩
abbrev cX5_perform : ByteArray := prog_7_method_2_code
def yX5_perform : MethodName := ⟨RX5, "perform", "(LCodeVerifier$Method;LCodeVerifier$Instruction;)Z"⟩
abbrev cX5_move : ByteArray := prog_7_method_3_code
def yX5_move : MethodName := ⟨RX5, "move", "(LCodeVerifier$Instruction;)V"⟩
abbrev cX5_load : ByteArray := prog_7_method_4_code
def yX5_load : MethodName := ⟨RX5, "load", "(I)V"⟩
abbrev cX5_duplicate : ByteArray := prog_7_method_5_code
def yX5_duplicate : MethodName := ⟨RX5, "duplicate", "()V"⟩
abbrev cX5_swap : ByteArray := prog_7_method_6_code
def yX5_swap : MethodName := ⟨RX5, "swap", "()V"⟩
abbrev cX5_reckon : ByteArray := prog_7_method_7_code
def yX5_reckon : MethodName := ⟨RX5, "reckon", "(I)V"⟩
abbrev cX5_branch : ByteArray := prog_7_method_8_code
def yX5_branch : MethodName := ⟨RX5, "branch", "(I)V"⟩
abbrev cX5_useObject : ByteArray := prog_7_method_9_code
def yX5_useObject : MethodName := ⟨RX5, "useObject", "(LCodeVerifier$Instruction;)V"⟩
abbrev cX5_useRow : ByteArray := prog_7_method_10_code
def yX5_useRow : MethodName := ⟨RX5, "useRow", "(LCodeVerifier$Instruction;)V"⟩
abbrev cX5_invoke : ByteArray := prog_7_method_11_code
def yX5_invoke : MethodName := ⟨RX5, "invoke", "(LCodeVerifier$Instruction;)V"⟩
abbrev cX5_leaveOrTalk : ByteArray := prog_7_method_12_code
def yX5_leaveOrTalk : MethodName := ⟨RX5, "leaveOrTalk", "(LCodeVerifier$Method;I)V"⟩
abbrev cX5_need : ByteArray := prog_7_method_13_code
def yX5_need : MethodName := ⟨RX5, "need", "(Z)V"⟩
abbrev cX5_put : ByteArray := prog_7_method_14_code
def yX5_put : MethodName := ⟨RX5, "put", "(I)V"⟩
abbrev cX5_take : ByteArray := prog_7_method_15_code
def yX5_take : MethodName := ⟨RX5, "take", "()I"⟩
abbrev cX5_takeInt : ByteArray := prog_7_method_16_code
def yX5_takeInt : MethodName := ⟨RX5, "takeInt", "()V"⟩
abbrev cX5_takeReference : ByteArray := prog_7_method_17_code
def yX5_takeReference : MethodName := ⟨RX5, "takeReference", "()V"⟩
abbrev cX5_takeRow : ByteArray := prog_7_method_18_code
def yX5_takeRow : MethodName := ⟨RX5, "takeRow", "()I"⟩
abbrev cX5_takeInto : ByteArray := prog_7_method_19_code
def yX5_takeInto : MethodName := ⟨RX5, "takeInto", "(I)V"⟩
def RX6 : String := "CodeVerifier$Told"
def TX6 : u_T := fun k => match k with
  | 0 => ("CodeVerifier$Told", "kinds", "[LCodeVerifier$Kind;", true)
  | 1 => ("CodeVerifier$Told", "methods", "[LCodeVerifier$Method;", true)
  | 2 => ("CodeVerifier$Told", "kindCount", "I", false)
  | _ => ("CodeVerifier$Told", "methodCount", "I", false)
def tyX6 : Nat → FieldType := fun k => match k with
  | 0 => .array (.object "CodeVerifier$Kind")
  | 1 => .array (.object "CodeVerifier$Method")
  | 2 => .int
  | _ => .int
theorem nmX6 : ∀ a, a < 4 → ∀ b, b < 4 → a ≠ b → (TX6 a).2.1 ≠ (TX6 b).2.1 := by decide +kernel
theorem tyX6_ok : ∀ k, k < 4 → parseFieldDescriptor (TX6 k).2.2.1 = some (tyX6 k) := by decide +kernel
abbrev cX6_init : ByteArray := prog_8_method_1_code
def yX6_init : MethodName := ⟨RX6, "<init>", "()V"⟩
abbrev cX6_kindAt : ByteArray := prog_8_method_2_code
def yX6_kindAt : MethodName := ⟨RX6, "kindAt", "(I)LCodeVerifier$Kind;"⟩
abbrev cX6_methodAt : ByteArray := prog_8_method_3_code
def yX6_methodAt : MethodName := ⟨RX6, "methodAt", "(I)LCodeVerifier$Method;"⟩
abbrev cX6_addKind : ByteArray := prog_8_method_4_code
def yX6_addKind : MethodName := ⟨RX6, "addKind", "(LCodeVerifier$Kind;)I"⟩
abbrev cX6_addMethod : ByteArray := prog_8_method_5_code
def yX6_addMethod : MethodName := ⟨RX6, "addMethod", "(LCodeVerifier$Kind;III)I"⟩
abbrev cX6_isType : ByteArray := prog_8_method_6_code
def yX6_isType : MethodName := ⟨RX6, "isType", "(I)Z"⟩
abbrev cX6_areOperands : ByteArray := prog_8_method_7_code
def yX6_areOperands : MethodName := ⟨RX6, "areOperands", "(LCodeVerifier$Method;III)Z"⟩
abbrev cX6_fieldType : ByteArray := prog_8_method_8_code
def yX6_fieldType : MethodName := ⟨RX6, "fieldType", "(II)I"⟩
abbrev cX6_methodInSlot : ByteArray := prog_8_method_9_code
def yX6_methodInSlot : MethodName := ⟨RX6, "methodInSlot", "(II)LCodeVerifier$Method;"⟩
abbrev cX6_goesInto : ByteArray := prog_8_method_10_code
def yX6_goesInto : MethodName := ⟨RX6, "goesInto", "(II)Z"⟩
abbrev cX6_meeting : ByteArray := prog_8_method_11_code
def yX6_meeting : MethodName := ⟨RX6, "meeting", "(II)I"⟩
abbrev cX6_lowestAboveBoth : ByteArray := prog_8_method_12_code
def yX6_lowestAboveBoth : MethodName := ⟨RX6, "lowestAboveBoth", "(LCodeVerifier$Kind;LCodeVerifier$Kind;)I"⟩
abbrev cX6_kindOf : ByteArray := prog_8_method_13_code
def yX6_kindOf : MethodName := ⟨RX6, "kindOf", "(I)LCodeVerifier$Kind;"⟩
def RX7 : String := "CodeVerifier$Walk"
def TX7 : u_T := fun k => match k with
  | 0 => ("CodeVerifier$Walk", "told", "LCodeVerifier$Told;", true)
  | 1 => ("CodeVerifier$Walk", "row", "LCodeVerifier$Row;", true)
  | 2 => ("CodeVerifier$Walk", "step", "LCodeVerifier$Step;", true)
  | 3 => ("CodeVerifier$Walk", "leastMark", "I", false)
  | 4 => ("CodeVerifier$Walk", "wrong", "I", false)
  | _ => ("CodeVerifier$Walk", "looks", "I", false)
def tyX7 : Nat → FieldType := fun k => match k with
  | 0 => .object "CodeVerifier$Told"
  | 1 => .object "CodeVerifier$Row"
  | 2 => .object "CodeVerifier$Step"
  | 3 => .int
  | 4 => .int
  | _ => .int
theorem nmX7 : ∀ a, a < 6 → ∀ b, b < 6 → a ≠ b → (TX7 a).2.1 ≠ (TX7 b).2.1 := by decide +kernel
theorem tyX7_ok : ∀ k, k < 6 → parseFieldDescriptor (TX7 k).2.2.1 = some (tyX7 k) := by decide +kernel
abbrev cX7_init : ByteArray := prog_9_method_1_code
def yX7_init : MethodName := ⟨RX7, "<init>", "(LCodeVerifier$Told;)V"⟩
abbrev cX7_goOver : ByteArray := prog_9_method_2_code
def yX7_goOver : MethodName := ⟨RX7, "goOver", "(LCodeVerifier$Method;)I"⟩
abbrev cX7_begin : ByteArray := prog_9_method_3_code
def yX7_begin : MethodName := ⟨RX7, "begin", "(LCodeVerifier$Method;)V"⟩
abbrev cX7_leastMarked : ByteArray := prog_9_method_4_code
def yX7_leastMarked : MethodName := ⟨RX7, "leastMarked", "(LCodeVerifier$Method;)I"⟩
abbrev cX7_lookAt : ByteArray := prog_9_method_5_code
def yX7_lookAt : MethodName := ⟨RX7, "lookAt", "(LCodeVerifier$Method;I)V"⟩
abbrev cX7_comeToHandlers : ByteArray := prog_9_method_6_code
def yX7_comeToHandlers : MethodName := ⟨RX7, "comeToHandlers", "(LCodeVerifier$Method;ILCodeVerifier$Instruction;)V"⟩
abbrev cX7_come : ByteArray := prog_9_method_7_code
def yX7_come : MethodName := ⟨RX7, "come", "(LCodeVerifier$Method;II)V"⟩
abbrev cX7_mark : ByteArray := prog_9_method_8_code
def yX7_mark : MethodName := ⟨RX7, "mark", "(LCodeVerifier$Instruction;I)V"⟩
def RX8 : String := "CodeVerifier"
def TX8 : u_T := fun k => match k with
  | 0 => ("CodeVerifier", "told", "LCodeVerifier$Told;", true)
  | _ => ("CodeVerifier", "walk", "LCodeVerifier$Walk;", true)
def tyX8 : Nat → FieldType := fun k => match k with
  | 0 => .object "CodeVerifier$Told"
  | _ => .object "CodeVerifier$Walk"
theorem nmX8 : ∀ a, a < 2 → ∀ b, b < 2 → a ≠ b → (TX8 a).2.1 ≠ (TX8 b).2.1 := by decide +kernel
theorem tyX8_ok : ∀ k, k < 2 → parseFieldDescriptor (TX8 k).2.2.1 = some (tyX8 k) := by decide +kernel
abbrev cX8_init : ByteArray := prog_1_method_1_code
def yX8_init : MethodName := ⟨RX8, "<init>", "()V"⟩
abbrev cX8_kind : ByteArray := prog_1_method_2_code
def yX8_kind : MethodName := ⟨RX8, "kind", "(I)I"⟩
abbrev cX8_field : ByteArray := prog_1_method_3_code
def yX8_field : MethodName := ⟨RX8, "field", "(II)I"⟩
abbrev cX8_method : ByteArray := prog_1_method_4_code
def yX8_method : MethodName := ⟨RX8, "method", "(IIII)I"⟩
abbrev cX8_parameter : ByteArray := prog_1_method_5_code
def yX8_parameter : MethodName := ⟨RX8, "parameter", "(II)I"⟩
abbrev cX8_slot : ByteArray := prog_1_method_6_code
def yX8_slot : MethodName := ⟨RX8, "slot", "(II)Z"⟩
abbrev cX8_op : ByteArray := prog_1_method_7_code
def yX8_op : MethodName := ⟨RX8, "op", "(IIII)I"⟩
abbrev cX8_handler : ByteArray := prog_1_method_8_code
def yX8_handler : MethodName := ⟨RX8, "handler", "(IIIII)I"⟩
abbrev cX8_verify : ByteArray := prog_1_method_9_code
def yX8_verify : MethodName := ⟨RX8, "verify", "(I)I"⟩
abbrev cX8_stands : ByteArray := prog_1_method_10_code
def yX8_stands : MethodName := ⟨RX8, "stands", "(IIII)I"⟩
abbrev cX8_looked : ByteArray := prog_1_method_11_code
def yX8_looked : MethodName := ⟨RX8, "looked", "()I"⟩
abbrev cX8_isRoom : ByteArray := prog_1_method_12_code
def yX8_isRoom : MethodName := ⟨RX8, "isRoom", "(II)Z"⟩
abbrev cX8_isPlace : ByteArray := prog_1_method_13_code
def yX8_isPlace : MethodName := ⟨RX8, "isPlace", "(I)Z"⟩
abbrev cX8_isKindType : ByteArray := prog_1_method_14_code
def yX8_isKindType : MethodName := ⟨RX8, "isKindType", "(I)Z"⟩
abbrev cX8_isRowType : ByteArray := prog_1_method_15_code
def yX8_isRowType : MethodName := ⟨RX8, "isRowType", "(I)Z"⟩
abbrev cX8_isReference : ByteArray := prog_1_method_16_code
def yX8_isReference : MethodName := ⟨RX8, "isReference", "(I)Z"⟩
abbrev cX8_rowOf : ByteArray := prog_1_method_17_code
def yX8_rowOf : MethodName := ⟨RX8, "rowOf", "(I)I"⟩
abbrev cX8_elementOf : ByteArray := prog_1_method_18_code
def yX8_elementOf : MethodName := ⟨RX8, "elementOf", "(I)I"⟩
def RX9 : String := "CodeVerifierModel"
def TX9 : u_T := fun k => match k with
  | 0 => ("CodeVerifierModel", "classes", "I", false)
  | 1 => ("CodeVerifierModel", "uppers", "[I", true)
  | 2 => ("CodeVerifierModel", "used", "[Z", true)
  | 3 => ("CodeVerifierModel", "fieldCounts", "[I", true)
  | 4 => ("CodeVerifierModel", "fieldTypes", "[I", true)
  | 5 => ("CodeVerifierModel", "slots", "[I", true)
  | 6 => ("CodeVerifierModel", "methods", "I", false)
  | 7 => ("CodeVerifierModel", "owners", "[I", true)
  | 8 => ("CodeVerifierModel", "gives", "[I", true)
  | 9 => ("CodeVerifierModel", "locals", "[I", true)
  | 10 => ("CodeVerifierModel", "heights", "[I", true)
  | 11 => ("CodeVerifierModel", "parameterCounts", "[I", true)
  | 12 => ("CodeVerifierModel", "parameterTypes", "[I", true)
  | 13 => ("CodeVerifierModel", "slotted", "[Z", true)
  | 14 => ("CodeVerifierModel", "sizes", "[I", true)
  | 15 => ("CodeVerifierModel", "ops", "[I", true)
  | 16 => ("CodeVerifierModel", "xs", "[I", true)
  | 17 => ("CodeVerifierModel", "ys", "[I", true)
  | 18 => ("CodeVerifierModel", "handlerCounts", "[I", true)
  | 19 => ("CodeVerifierModel", "froms", "[I", true)
  | 20 => ("CodeVerifierModel", "tos", "[I", true)
  | 21 => ("CodeVerifierModel", "caught", "[I", true)
  | 22 => ("CodeVerifierModel", "targets", "[I", true)
  | 23 => ("CodeVerifierModel", "verified", "[Z", true)
  | 24 => ("CodeVerifierModel", "high", "[I", true)
  | 25 => ("CodeVerifierModel", "types", "[I", true)
  | 26 => ("CodeVerifierModel", "marks", "[Z", true)
  | 27 => ("CodeVerifierModel", "looked", "I", false)
  | 28 => ("CodeVerifierModel", "now", "[I", true)
  | 29 => ("CodeVerifierModel", "top", "I", false)
  | 30 => ("CodeVerifierModel", "here", "I", false)
  | _ => ("CodeVerifierModel", "wrong", "I", false)
def tyX9 : Nat → FieldType := fun k => match k with
  | 0 => .int
  | 1 => .array .int
  | 2 => .array .boolean
  | 3 => .array .int
  | 4 => .array .int
  | 5 => .array .int
  | 6 => .int
  | 7 => .array .int
  | 8 => .array .int
  | 9 => .array .int
  | 10 => .array .int
  | 11 => .array .int
  | 12 => .array .int
  | 13 => .array .boolean
  | 14 => .array .int
  | 15 => .array .int
  | 16 => .array .int
  | 17 => .array .int
  | 18 => .array .int
  | 19 => .array .int
  | 20 => .array .int
  | 21 => .array .int
  | 22 => .array .int
  | 23 => .array .boolean
  | 24 => .array .int
  | 25 => .array .int
  | 26 => .array .boolean
  | 27 => .int
  | 28 => .array .int
  | 29 => .int
  | 30 => .int
  | _ => .int
theorem nmX9 : ∀ a, a < 32 → ∀ b, b < 32 → a ≠ b → (TX9 a).2.1 ≠ (TX9 b).2.1 := by decide +kernel
theorem tyX9_ok : ∀ k, k < 32 → parseFieldDescriptor (TX9 k).2.2.1 = some (tyX9 k) := by decide +kernel
abbrev cX9_init : ByteArray := prog_11_method_1_code
def yX9_init : MethodName := ⟨RX9, "<init>", "()V"⟩
abbrev cX9_isClass : ByteArray := prog_11_method_2_code
def yX9_isClass : MethodName := ⟨RX9, "isClass", "(I)Z"⟩
abbrev cX9_isMethod : ByteArray := prog_11_method_3_code
def yX9_isMethod : MethodName := ⟨RX9, "isMethod", "(I)Z"⟩
abbrev cX9_isType : ByteArray := prog_11_method_4_code
def yX9_isType : MethodName := ⟨RX9, "isType", "(I)Z"⟩
abbrev cX9_isRow : ByteArray := prog_11_method_5_code
def yX9_isRow : MethodName := ⟨RX9, "isRow", "(I)Z"⟩
abbrev cX9_isSome : ByteArray := prog_11_method_6_code
def yX9_isSome : MethodName := ⟨RX9, "isSome", "(I)Z"⟩
abbrev cX9_isReference : ByteArray := prog_11_method_7_code
def yX9_isReference : MethodName := ⟨RX9, "isReference", "(I)Z"⟩
abbrev cX9_isUnder : ByteArray := prog_11_method_8_code
def yX9_isUnder : MethodName := ⟨RX9, "isUnder", "(II)Z"⟩
abbrev cX9_kind : ByteArray := prog_11_method_9_code
def yX9_kind : MethodName := ⟨RX9, "kind", "(I)I"⟩
abbrev cX9_field : ByteArray := prog_11_method_10_code
def yX9_field : MethodName := ⟨RX9, "field", "(II)I"⟩
abbrev cX9_method : ByteArray := prog_11_method_11_code
def yX9_method : MethodName := ⟨RX9, "method", "(IIII)I"⟩
abbrev cX9_parameter : ByteArray := prog_11_method_12_code
def yX9_parameter : MethodName := ⟨RX9, "parameter", "(II)I"⟩
abbrev cX9_isLike : ByteArray := prog_11_method_13_code
def yX9_isLike : MethodName := ⟨RX9, "isLike", "(II)Z"⟩
abbrev cX9_slot : ByteArray := prog_11_method_14_code
def yX9_slot : MethodName := ⟨RX9, "slot", "(II)Z"⟩
abbrev cX9_isGood : ByteArray := prog_11_method_15_code
def yX9_isGood : MethodName := ⟨RX9, "isGood", "(IIII)Z"⟩
abbrev cX9_op : ByteArray := prog_11_method_16_code
def yX9_op : MethodName := ⟨RX9, "op", "(IIII)I"⟩
abbrev cX9_handler : ByteArray := prog_11_method_17_code
def yX9_handler : MethodName := ⟨RX9, "handler", "(IIIII)I"⟩
abbrev cX9_goes : ByteArray := prog_11_method_18_code
def yX9_goes : MethodName := ⟨RX9, "goes", "(II)Z"⟩
abbrev cX9_meet : ByteArray := prog_11_method_19_code
def yX9_meet : MethodName := ⟨RX9, "meet", "(II)I"⟩
abbrev cX9_come : ByteArray := prog_11_method_20_code
def yX9_come : MethodName := ⟨RX9, "come", "(II)Z"⟩
abbrev cX9_takeUp : ByteArray := prog_11_method_21_code
def yX9_takeUp : MethodName := ⟨RX9, "takeUp", "(II)V"⟩
abbrev cX9_push : ByteArray := prog_11_method_22_code
def yX9_push : MethodName := ⟨RX9, "push", "(I)Z"⟩
abbrev cX9_pop : ByteArray := prog_11_method_23_code
def yX9_pop : MethodName := ⟨RX9, "pop", "()I"⟩
abbrev cX9_popInto : ByteArray := prog_11_method_24_code
def yX9_popInto : MethodName := ⟨RX9, "popInto", "(I)Z"⟩
abbrev cX9_popReference : ByteArray := prog_11_method_25_code
def yX9_popReference : MethodName := ⟨RX9, "popReference", "()Z"⟩
abbrev cX9_ints : ByteArray := prog_11_method_26_code
def yX9_ints : MethodName := ⟨RX9, "ints", "(I)Z"⟩
abbrev cX9_parameters : ByteArray := prog_11_method_27_code
def yX9_parameters : MethodName := ⟨RX9, "parameters", "(II)Z"⟩
abbrev cX9_given : ByteArray := prog_11_method_28_code
def yX9_given : MethodName := ⟨RX9, "given", "(I)Z"⟩
abbrev cX9_rows : ByteArray := prog_11_method_29_code
def yX9_rows : MethodName := ⟨RX9, "rows", "(II)Z"⟩
abbrev cX9_places : ByteArray := prog_11_method_30_code
def yX9_places : MethodName := ⟨RX9, "places", "(III)Z"⟩
abbrev cX9_fits : ByteArray := prog_11_method_31_code
def yX9_fits : MethodName := ⟨RX9, "fits", "(IIII)Z"⟩
abbrev cX9_step : ByteArray := prog_11_method_32_code
def yX9_step : MethodName := ⟨RX9, "step", "(II)Z"⟩
abbrev cX9_verify : ByteArray := prog_11_method_33_code
def yX9_verify : MethodName := ⟨RX9, "verify", "(I)I"⟩
abbrev cX9_stands : ByteArray := prog_11_method_34_code
def yX9_stands : MethodName := ⟨RX9, "stands", "(IIII)I"⟩
abbrev cX9_looked : ByteArray := prog_11_method_35_code
def yX9_looked : MethodName := ⟨RX9, "looked", "()I"⟩
def RJ9 : String := "java/lang/Math"
abbrev cJ9_min_7cf53 : ByteArray := prog_12_method_69_code
def yJ9_min_7cf53 : MethodName := ⟨RJ9, "min", "(II)I"⟩
def RJ7 : String := "java/util/Arrays"
abbrev cJ7_fill_53178 : ByteArray := prog_13_method_103_code
def yJ7_fill_53178 : MethodName := ⟨RJ7, "fill", "([II)V"⟩
def RL : String := "CodeVerifierLaw"
abbrev cL_law : ByteArray := code
def yL_law : MethodName := ⟨RL, "law", "([I)Z"⟩
abbrev vwCl : List vw_C := [(RX0, TX0, 4), (RX1, TX1, 6), (RX2, TX2, 7), (RX3, TX3, 12), (RX4, TX4, 4), (RX5, TX5, 3), (RX6, TX6, 4), (RX7, TX7, 6), (RX8, TX8, 2), (RX9, TX9, 32)]
end
section
/-! The words of the tables, each by its place; a method has its own code and all good words. -/
def zT : List Cond := lw_tbl.filter goodWord
theorem zT_of {w : Cond} (h : w ∈ tables_1) (g : goodWord w = true) : w ∈ zT := List.mem_filter.mpr ⟨List.mem_append_right _ h, g⟩
theorem zt1 {w : Cond} (h : w ∈ tables_1_1) : w ∈ tables_1 := List.mem_append_left _ h
theorem zt2 {w : Cond} (h : w ∈ tables_1_2) : w ∈ tables_1 := List.mem_append_right _ (List.mem_append_left _ h)
theorem zt3 {w : Cond} (h : w ∈ tables_1_3) : w ∈ tables_1 := List.mem_append_right _ (List.mem_append_right _ (List.mem_append_left _ h))
theorem zt4 {w : Cond} (h : w ∈ tables_1_4) : w ∈ tables_1 := List.mem_append_right _ (List.mem_append_right _ (List.mem_append_right _ h))
theorem zT_p {q : MethodName × Nat} (h : q ∈ lw_privs) (g : goodWord (.selects q.1.cls q.1 q.1) = true) : Cond.selects q.1.cls q.1 q.1 ∈ zT := List.mem_filter.mpr ⟨List.mem_append_left _ (List.mem_map.mpr ⟨q, h, rfl⟩), g⟩
theorem wd_0 : (Jvm.Cond.initialized "CodeVerifierLaw") ∈ zT := zT_of (zt1 (List.mem_of_getElem? (i := 0) rfl)) rfl
theorem wd_1 : (Jvm.Cond.initialized "CodeVerifier") ∈ zT := zT_of (zt1 (List.mem_of_getElem? (i := 1) rfl)) rfl
theorem wd_2 : (Jvm.Cond.initialized "CodeVerifier$Told") ∈ zT := zT_of (zt1 (List.mem_of_getElem? (i := 2) rfl)) rfl
theorem wd_3 : (Jvm.Cond.initialized "CodeVerifier$Walk") ∈ zT := zT_of (zt1 (List.mem_of_getElem? (i := 3) rfl)) rfl
theorem wd_4 : (Jvm.Cond.initialized "CodeVerifier$Row") ∈ zT := zT_of (zt1 (List.mem_of_getElem? (i := 4) rfl)) rfl
theorem wd_5 : (Jvm.Cond.initialized "CodeVerifier$Step") ∈ zT := zT_of (zt1 (List.mem_of_getElem? (i := 5) rfl)) rfl
theorem wd_6 : (Jvm.Cond.initialized "CodeVerifierModel") ∈ zT := zT_of (zt1 (List.mem_of_getElem? (i := 6) rfl)) rfl
theorem wd_7 : (Jvm.Cond.initialized "CodeVerifier$Kind") ∈ zT := zT_of (zt1 (List.mem_of_getElem? (i := 7) rfl)) rfl
theorem wd_8 : (Jvm.Cond.initialized "java/util/Arrays") ∈ zT := zT_of (zt1 (List.mem_of_getElem? (i := 8) rfl)) rfl
theorem wd_9 : (Jvm.Cond.initialized "CodeVerifier$Method") ∈ zT := zT_of (zt1 (List.mem_of_getElem? (i := 9) rfl)) rfl
theorem wd_10 : (Jvm.Cond.initialized "CodeVerifier$Instruction") ∈ zT := zT_of (zt1 (List.mem_of_getElem? (i := 10) rfl)) rfl
theorem wd_11 : (Jvm.Cond.initialized "CodeVerifier$Handler") ∈ zT := zT_of (zt1 (List.mem_of_getElem? (i := 11) rfl)) rfl
theorem wd_12 : (Jvm.Cond.initialized "java/lang/Math") ∈ zT := zT_of (zt1 (List.mem_of_getElem? (i := 12) rfl)) rfl
theorem wd_13 : (Jvm.Cond.classLink "CodeVerifierLaw" (7 : Nat) "CodeVerifier") ∈ zT := zT_of (zt1 (List.mem_of_getElem? (i := 13) rfl)) rfl
theorem wd_14 : (Jvm.Cond.instantiable "CodeVerifier" (2 : Nat)) ∈ zT := zT_of (zt1 (List.mem_of_getElem? (i := 14) rfl)) rfl
theorem wd_15 : (Jvm.Cond.methodLink "CodeVerifierLaw" (9 : Nat) ({ cls := "CodeVerifier", name := "<init>", desc := "()V" } : Jvm.MethodName)) ∈ zT := zT_of (zt1 (List.mem_of_getElem? (i := 15) rfl)) rfl
theorem wd_16 : (Jvm.Cond.instanceMethod ({ cls := "CodeVerifier", name := "<init>", desc := "()V" } : Jvm.MethodName)) ∈ zT := zT_of (zt1 (List.mem_of_getElem? (i := 16) rfl)) rfl
theorem wd_17 : (Jvm.Cond.code ({ cls := "CodeVerifier", name := "<init>", desc := "()V" } : Jvm.MethodName) prog_1_method_1_code (1 : Nat) (Option.none : Option Jvm.ClassFile.FieldType)) ∈ zT := zT_of (zt1 (List.mem_of_getElem? (i := 17) rfl)) rfl
theorem wd_18 : (Jvm.Cond.methodLink "CodeVerifier" (1 : Nat) ({ cls := "java/lang/Object", name := "<init>", desc := "()V" } : Jvm.MethodName)) ∈ zT := zT_of (zt1 (List.mem_of_getElem? (i := 18) rfl)) rfl
theorem wd_19 : (Jvm.Cond.instanceMethod ({ cls := "java/lang/Object", name := "<init>", desc := "()V" } : Jvm.MethodName)) ∈ zT := zT_of (zt1 (List.mem_of_getElem? (i := 19) rfl)) rfl
theorem wd_20 : (Jvm.Cond.code ({ cls := "java/lang/Object", name := "<init>", desc := "()V" } : Jvm.MethodName) object_method_1_code (1 : Nat) (Option.none : Option Jvm.ClassFile.FieldType)) ∈ zT := zT_of (zt1 (List.mem_of_getElem? (i := 20) rfl)) rfl
theorem wd_21 : (Jvm.Cond.classLink "CodeVerifier" (7 : Nat) "CodeVerifier$Told") ∈ zT := zT_of (zt1 (List.mem_of_getElem? (i := 21) rfl)) rfl
theorem wd_22 : (Jvm.Cond.instantiable "CodeVerifier$Told" (4 : Nat)) ∈ zT := zT_of (zt1 (List.mem_of_getElem? (i := 22) rfl)) rfl
theorem wd_23 : (Jvm.Cond.methodLinkNest "CodeVerifier" (9 : Nat) ({ cls := "CodeVerifier$Told", name := "<init>", desc := "()V" } : Jvm.MethodName) "CodeVerifier") ∈ tables_1 := zt1 (List.mem_of_getElem? (i := 23) rfl)
theorem wd_24 : (Jvm.Cond.instanceMethod ({ cls := "CodeVerifier$Told", name := "<init>", desc := "()V" } : Jvm.MethodName)) ∈ zT := zT_of (zt1 (List.mem_of_getElem? (i := 24) rfl)) rfl
theorem wd_25 : (Jvm.Cond.code ({ cls := "CodeVerifier$Told", name := "<init>", desc := "()V" } : Jvm.MethodName) prog_8_method_1_code (1 : Nat) (Option.none : Option Jvm.ClassFile.FieldType)) ∈ zT := zT_of (zt1 (List.mem_of_getElem? (i := 25) rfl)) rfl
theorem wd_26 : (Jvm.Cond.methodLink "CodeVerifier$Told" (3 : Nat) ({ cls := "java/lang/Object", name := "<init>", desc := "()V" } : Jvm.MethodName)) ∈ zT := zT_of (zt1 (List.mem_of_getElem? (i := 26) rfl)) rfl
theorem wd_27 : (Jvm.Cond.classLink "CodeVerifier$Told" (9 : Nat) "CodeVerifier$Kind") ∈ zT := zT_of (zt1 (List.mem_of_getElem? (i := 27) rfl)) rfl
theorem wd_28 : (Jvm.Cond.arrayOver (Jvm.ClassFile.FieldType.object "CodeVerifier$Kind")) ∈ tables_1 := zt1 (List.mem_of_getElem? (i := 28) rfl)
theorem wd_29 : (Jvm.Cond.classLink "CodeVerifier$Told" (17 : Nat) "CodeVerifier$Method") ∈ zT := zT_of (zt1 (List.mem_of_getElem? (i := 29) rfl)) rfl
theorem wd_30 : (Jvm.Cond.arrayOver (Jvm.ClassFile.FieldType.object "CodeVerifier$Method")) ∈ tables_1 := zt1 (List.mem_of_getElem? (i := 30) rfl)
theorem wd_31 : (Jvm.Cond.fieldLink "CodeVerifier$Told" (11 : Nat) "CodeVerifier$Told" "kinds" "[LCodeVerifier$Kind;") ∈ zT := zT_of (zt1 (List.mem_of_getElem? (i := 31) rfl)) rfl
theorem wd_32 : (Jvm.Cond.fieldLink "CodeVerifier$Told" (19 : Nat) "CodeVerifier$Told" "methods" "[LCodeVerifier$Method;") ∈ zT := zT_of (zt1 (List.mem_of_getElem? (i := 32) rfl)) rfl
theorem wd_33 : (Jvm.Cond.fieldLink "CodeVerifier$Told" (23 : Nat) "CodeVerifier$Told" "kindCount" "I") ∈ zT := zT_of (zt1 (List.mem_of_getElem? (i := 33) rfl)) rfl
theorem wd_34 : (Jvm.Cond.fieldLink "CodeVerifier$Told" (27 : Nat) "CodeVerifier$Told" "methodCount" "I") ∈ zT := zT_of (zt1 (List.mem_of_getElem? (i := 34) rfl)) rfl
theorem wd_35 : (Jvm.Cond.laysFinal "CodeVerifier$Told" "CodeVerifier$Told" "kinds" "[LCodeVerifier$Kind;") ∈ zT := zT_of (zt1 (List.mem_of_getElem? (i := 35) rfl)) rfl
theorem wd_37 : (Jvm.Cond.laysFinal "CodeVerifier$Told" "CodeVerifier$Told" "methods" "[LCodeVerifier$Method;") ∈ zT := zT_of (zt1 (List.mem_of_getElem? (i := 37) rfl)) rfl
theorem wd_39 : (Jvm.Cond.lays "CodeVerifier$Told" "CodeVerifier$Told" "kindCount" "I") ∈ zT := zT_of (zt1 (List.mem_of_getElem? (i := 39) rfl)) rfl
theorem wd_41 : (Jvm.Cond.lays "CodeVerifier$Told" "CodeVerifier$Told" "methodCount" "I") ∈ zT := zT_of (zt1 (List.mem_of_getElem? (i := 41) rfl)) rfl
theorem wd_44 : (Jvm.Cond.classLink "CodeVerifier" (16 : Nat) "CodeVerifier$Walk") ∈ zT := zT_of (zt1 (List.mem_of_getElem? (i := 44) rfl)) rfl
theorem wd_45 : (Jvm.Cond.instantiable "CodeVerifier$Walk" (6 : Nat)) ∈ zT := zT_of (zt1 (List.mem_of_getElem? (i := 45) rfl)) rfl
theorem wd_46 : (Jvm.Cond.methodLink "CodeVerifier" (18 : Nat) ({ cls := "CodeVerifier$Walk", name := "<init>", desc := "(LCodeVerifier$Told;)V" } : Jvm.MethodName)) ∈ zT := zT_of (zt1 (List.mem_of_getElem? (i := 46) rfl)) rfl
theorem wd_47 : (Jvm.Cond.instanceMethod ({ cls := "CodeVerifier$Walk", name := "<init>", desc := "(LCodeVerifier$Told;)V" } : Jvm.MethodName)) ∈ zT := zT_of (zt1 (List.mem_of_getElem? (i := 47) rfl)) rfl
theorem wd_48 : (Jvm.Cond.code ({ cls := "CodeVerifier$Walk", name := "<init>", desc := "(LCodeVerifier$Told;)V" } : Jvm.MethodName) prog_9_method_1_code (2 : Nat) (Option.none : Option Jvm.ClassFile.FieldType)) ∈ zT := zT_of (zt1 (List.mem_of_getElem? (i := 48) rfl)) rfl
theorem wd_49 : (Jvm.Cond.methodLink "CodeVerifier$Walk" (3 : Nat) ({ cls := "java/lang/Object", name := "<init>", desc := "()V" } : Jvm.MethodName)) ∈ zT := zT_of (zt1 (List.mem_of_getElem? (i := 49) rfl)) rfl
theorem wd_50 : (Jvm.Cond.classLink "CodeVerifier$Walk" (15 : Nat) "CodeVerifier$Row") ∈ zT := zT_of (zt1 (List.mem_of_getElem? (i := 50) rfl)) rfl
theorem wd_51 : (Jvm.Cond.instantiable "CodeVerifier$Row" (4 : Nat)) ∈ zT := zT_of (zt1 (List.mem_of_getElem? (i := 51) rfl)) rfl
theorem wd_52 : (Jvm.Cond.methodLinkNest "CodeVerifier$Walk" (17 : Nat) ({ cls := "CodeVerifier$Row", name := "<init>", desc := "()V" } : Jvm.MethodName) "CodeVerifier") ∈ tables_1 := zt1 (List.mem_of_getElem? (i := 52) rfl)
theorem wd_53 : (Jvm.Cond.instanceMethod ({ cls := "CodeVerifier$Row", name := "<init>", desc := "()V" } : Jvm.MethodName)) ∈ zT := zT_of (zt1 (List.mem_of_getElem? (i := 53) rfl)) rfl
theorem wd_54 : (Jvm.Cond.code ({ cls := "CodeVerifier$Row", name := "<init>", desc := "()V" } : Jvm.MethodName) prog_6_method_1_code (1 : Nat) (Option.none : Option Jvm.ClassFile.FieldType)) ∈ zT := zT_of (zt1 (List.mem_of_getElem? (i := 54) rfl)) rfl
theorem wd_55 : (Jvm.Cond.methodLink "CodeVerifier$Row" (3 : Nat) ({ cls := "java/lang/Object", name := "<init>", desc := "()V" } : Jvm.MethodName)) ∈ zT := zT_of (zt1 (List.mem_of_getElem? (i := 55) rfl)) rfl
theorem wd_56 : (Jvm.Cond.fieldLink "CodeVerifier$Row" (9 : Nat) "CodeVerifier$Row" "types" "[I") ∈ zT := zT_of (zt1 (List.mem_of_getElem? (i := 56) rfl)) rfl
theorem wd_57 : (Jvm.Cond.fieldLink "CodeVerifier$Row" (21 : Nat) "CodeVerifier$Row" "locals" "I") ∈ zT := zT_of (zt1 (List.mem_of_getElem? (i := 57) rfl)) rfl
theorem wd_58 : (Jvm.Cond.fieldLink "CodeVerifier$Row" (25 : Nat) "CodeVerifier$Row" "places" "I") ∈ zT := zT_of (zt1 (List.mem_of_getElem? (i := 58) rfl)) rfl
theorem wd_59 : (Jvm.Cond.fieldLink "CodeVerifier$Row" (28 : Nat) "CodeVerifier$Row" "height" "I") ∈ zT := zT_of (zt1 (List.mem_of_getElem? (i := 59) rfl)) rfl
theorem wd_60 : (Jvm.Cond.fieldLink "CodeVerifier$Walk" (118 : Nat) "CodeVerifier$Row" "height" "I") ∈ zT := zT_of (zt1 (List.mem_of_getElem? (i := 60) rfl)) rfl
theorem wd_61 : (Jvm.Cond.fieldLink "CodeVerifier" (124 : Nat) "CodeVerifier$Row" "height" "I") ∈ zT := zT_of (zt1 (List.mem_of_getElem? (i := 61) rfl)) rfl
theorem wd_62 : (Jvm.Cond.fieldLink "CodeVerifier$Step" (142 : Nat) "CodeVerifier$Row" "height" "I") ∈ zT := zT_of (zt1 (List.mem_of_getElem? (i := 62) rfl)) rfl
theorem wd_63 : (Jvm.Cond.laysFinal "CodeVerifier$Row" "CodeVerifier$Row" "types" "[I") ∈ zT := zT_of (zt1 (List.mem_of_getElem? (i := 63) rfl)) rfl
theorem wd_65 : (Jvm.Cond.lays "CodeVerifier$Row" "CodeVerifier$Row" "locals" "I") ∈ zT := zT_of (zt1 (List.mem_of_getElem? (i := 65) rfl)) rfl
theorem wd_67 : (Jvm.Cond.lays "CodeVerifier$Row" "CodeVerifier$Row" "places" "I") ∈ zT := zT_of (zt1 (List.mem_of_getElem? (i := 67) rfl)) rfl
theorem wd_69 : (Jvm.Cond.lays "CodeVerifier$Row" "CodeVerifier$Row" "height" "I") ∈ zT := zT_of (zt1 (List.mem_of_getElem? (i := 69) rfl)) rfl
theorem wd_72 : (Jvm.Cond.arrayClass Jvm.ClassFile.FieldType.int) ∈ zT := zT_of (zt1 (List.mem_of_getElem? (i := 72) rfl)) rfl
theorem wd_73 : (Jvm.Cond.classLink "CodeVerifier$Walk" (22 : Nat) "CodeVerifier$Step") ∈ zT := zT_of (zt1 (List.mem_of_getElem? (i := 73) rfl)) rfl
theorem wd_74 : (Jvm.Cond.instantiable "CodeVerifier$Step" (3 : Nat)) ∈ zT := zT_of (zt1 (List.mem_of_getElem? (i := 74) rfl)) rfl
theorem wd_75 : (Jvm.Cond.methodLink "CodeVerifier$Walk" (24 : Nat) ({ cls := "CodeVerifier$Step", name := "<init>", desc := "(LCodeVerifier$Told;LCodeVerifier$Row;)V" } : Jvm.MethodName)) ∈ zT := zT_of (zt1 (List.mem_of_getElem? (i := 75) rfl)) rfl
theorem wd_76 : (Jvm.Cond.instanceMethod ({ cls := "CodeVerifier$Step", name := "<init>", desc := "(LCodeVerifier$Told;LCodeVerifier$Row;)V" } : Jvm.MethodName)) ∈ zT := zT_of (zt1 (List.mem_of_getElem? (i := 76) rfl)) rfl
theorem wd_77 : (Jvm.Cond.code ({ cls := "CodeVerifier$Step", name := "<init>", desc := "(LCodeVerifier$Told;LCodeVerifier$Row;)V" } : Jvm.MethodName) prog_7_method_1_code (3 : Nat) (Option.none : Option Jvm.ClassFile.FieldType)) ∈ zT := zT_of (zt1 (List.mem_of_getElem? (i := 77) rfl)) rfl
theorem wd_78 : (Jvm.Cond.methodLink "CodeVerifier$Step" (3 : Nat) ({ cls := "java/lang/Object", name := "<init>", desc := "()V" } : Jvm.MethodName)) ∈ zT := zT_of (zt1 (List.mem_of_getElem? (i := 78) rfl)) rfl
theorem wd_79 : (Jvm.Cond.fieldLink "CodeVerifier$Step" (9 : Nat) "CodeVerifier$Step" "told" "LCodeVerifier$Told;") ∈ zT := zT_of (zt1 (List.mem_of_getElem? (i := 79) rfl)) rfl
theorem wd_80 : (Jvm.Cond.fieldLink "CodeVerifier$Step" (15 : Nat) "CodeVerifier$Step" "row" "LCodeVerifier$Row;") ∈ zT := zT_of (zt1 (List.mem_of_getElem? (i := 80) rfl)) rfl
theorem wd_81 : (Jvm.Cond.fieldLink "CodeVerifier$Step" (19 : Nat) "CodeVerifier$Step" "fits" "Z") ∈ zT := zT_of (zt1 (List.mem_of_getElem? (i := 81) rfl)) rfl
theorem wd_82 : (Jvm.Cond.laysFinal "CodeVerifier$Step" "CodeVerifier$Step" "told" "LCodeVerifier$Told;") ∈ zT := zT_of (zt1 (List.mem_of_getElem? (i := 82) rfl)) rfl
theorem wd_84 : (Jvm.Cond.laysFinal "CodeVerifier$Step" "CodeVerifier$Step" "row" "LCodeVerifier$Row;") ∈ zT := zT_of (zt1 (List.mem_of_getElem? (i := 84) rfl)) rfl
theorem wd_86 : (Jvm.Cond.lays "CodeVerifier$Step" "CodeVerifier$Step" "fits" "Z") ∈ zT := zT_of (zt1 (List.mem_of_getElem? (i := 86) rfl)) rfl
theorem wd_89 : (Jvm.Cond.fieldLink "CodeVerifier$Walk" (9 : Nat) "CodeVerifier$Walk" "told" "LCodeVerifier$Told;") ∈ zT := zT_of (zt1 (List.mem_of_getElem? (i := 89) rfl)) rfl
theorem wd_90 : (Jvm.Cond.fieldLink "CodeVerifier$Walk" (18 : Nat) "CodeVerifier$Walk" "row" "LCodeVerifier$Row;") ∈ zT := zT_of (zt1 (List.mem_of_getElem? (i := 90) rfl)) rfl
theorem wd_91 : (Jvm.Cond.fieldLink "CodeVerifier$Walk" (27 : Nat) "CodeVerifier$Walk" "step" "LCodeVerifier$Step;") ∈ zT := zT_of (zt1 (List.mem_of_getElem? (i := 91) rfl)) rfl
theorem wd_92 : (Jvm.Cond.fieldLink "CodeVerifier$Walk" (51 : Nat) "CodeVerifier$Walk" "leastMark" "I") ∈ zT := zT_of (zt1 (List.mem_of_getElem? (i := 92) rfl)) rfl
theorem wd_93 : (Jvm.Cond.fieldLink "CodeVerifier$Walk" (36 : Nat) "CodeVerifier$Walk" "wrong" "I") ∈ zT := zT_of (zt1 (List.mem_of_getElem? (i := 93) rfl)) rfl
theorem wd_94 : (Jvm.Cond.fieldLink "CodeVerifier$Walk" (48 : Nat) "CodeVerifier$Walk" "looks" "I") ∈ zT := zT_of (zt1 (List.mem_of_getElem? (i := 94) rfl)) rfl
theorem wd_95 : (Jvm.Cond.fieldLink "CodeVerifier" (136 : Nat) "CodeVerifier$Walk" "looks" "I") ∈ zT := zT_of (zt1 (List.mem_of_getElem? (i := 95) rfl)) rfl
theorem wd_96 : (Jvm.Cond.laysFinal "CodeVerifier$Walk" "CodeVerifier$Walk" "told" "LCodeVerifier$Told;") ∈ zT := zT_of (zt1 (List.mem_of_getElem? (i := 96) rfl)) rfl
theorem wd_98 : (Jvm.Cond.laysFinal "CodeVerifier$Walk" "CodeVerifier$Walk" "row" "LCodeVerifier$Row;") ∈ zT := zT_of (zt1 (List.mem_of_getElem? (i := 98) rfl)) rfl
theorem wd_100 : (Jvm.Cond.laysFinal "CodeVerifier$Walk" "CodeVerifier$Walk" "step" "LCodeVerifier$Step;") ∈ zT := zT_of (zt1 (List.mem_of_getElem? (i := 100) rfl)) rfl
theorem wd_102 : (Jvm.Cond.lays "CodeVerifier$Walk" "CodeVerifier$Walk" "leastMark" "I") ∈ zT := zT_of (zt1 (List.mem_of_getElem? (i := 102) rfl)) rfl
theorem wd_104 : (Jvm.Cond.lays "CodeVerifier$Walk" "CodeVerifier$Walk" "wrong" "I") ∈ zT := zT_of (zt1 (List.mem_of_getElem? (i := 104) rfl)) rfl
theorem wd_106 : (Jvm.Cond.lays "CodeVerifier$Walk" "CodeVerifier$Walk" "looks" "I") ∈ zT := zT_of (zt1 (List.mem_of_getElem? (i := 106) rfl)) rfl
theorem wd_109 : (Jvm.Cond.fieldLink "CodeVerifier" (10 : Nat) "CodeVerifier" "told" "LCodeVerifier$Told;") ∈ zT := zT_of (zt1 (List.mem_of_getElem? (i := 109) rfl)) rfl
theorem wd_110 : (Jvm.Cond.fieldLink "CodeVerifier" (21 : Nat) "CodeVerifier" "walk" "LCodeVerifier$Walk;") ∈ zT := zT_of (zt1 (List.mem_of_getElem? (i := 110) rfl)) rfl
theorem wd_111 : (Jvm.Cond.laysFinal "CodeVerifier" "CodeVerifier" "told" "LCodeVerifier$Told;") ∈ zT := zT_of (zt1 (List.mem_of_getElem? (i := 111) rfl)) rfl
theorem wd_113 : (Jvm.Cond.laysFinal "CodeVerifier" "CodeVerifier" "walk" "LCodeVerifier$Walk;") ∈ zT := zT_of (zt1 (List.mem_of_getElem? (i := 113) rfl)) rfl
theorem wd_116 : (Jvm.Cond.methodLink "CodeVerifierLaw" (13 : Nat) ({ cls := "CodeVerifier", name := "kind", desc := "(I)I" } : Jvm.MethodName)) ∈ zT := zT_of (zt1 (List.mem_of_getElem? (i := 116) rfl)) rfl
theorem wd_117 : (Jvm.Cond.instanceMethod ({ cls := "CodeVerifier", name := "kind", desc := "(I)I" } : Jvm.MethodName)) ∈ zT := zT_of (zt1 (List.mem_of_getElem? (i := 117) rfl)) rfl
theorem wd_118 : (Jvm.Cond.selects "CodeVerifier" ({ cls := "CodeVerifier", name := "kind", desc := "(I)I" } : Jvm.MethodName) ({ cls := "CodeVerifier", name := "kind", desc := "(I)I" } : Jvm.MethodName)) ∈ zT := zT_of (zt1 (List.mem_of_getElem? (i := 118) rfl)) rfl
theorem wd_119 : (Jvm.Cond.code ({ cls := "CodeVerifier", name := "kind", desc := "(I)I" } : Jvm.MethodName) prog_1_method_2_code (3 : Nat) (Option.some Jvm.ClassFile.FieldType.int)) ∈ zT := zT_of (zt1 (List.mem_of_getElem? (i := 119) rfl)) rfl
theorem wd_120 : (Jvm.Cond.methodLink "CodeVerifier" (25 : Nat) ({ cls := "CodeVerifier$Told", name := "kindAt", desc := "(I)LCodeVerifier$Kind;" } : Jvm.MethodName)) ∈ zT := zT_of (zt1 (List.mem_of_getElem? (i := 120) rfl)) rfl
theorem wd_121 : (Jvm.Cond.instanceMethod ({ cls := "CodeVerifier$Told", name := "kindAt", desc := "(I)LCodeVerifier$Kind;" } : Jvm.MethodName)) ∈ zT := zT_of (zt1 (List.mem_of_getElem? (i := 121) rfl)) rfl
theorem wd_122 : (Jvm.Cond.selects "CodeVerifier$Told" ({ cls := "CodeVerifier$Told", name := "kindAt", desc := "(I)LCodeVerifier$Kind;" } : Jvm.MethodName) ({ cls := "CodeVerifier$Told", name := "kindAt", desc := "(I)LCodeVerifier$Kind;" } : Jvm.MethodName)) ∈ zT := zT_of (zt1 (List.mem_of_getElem? (i := 122) rfl)) rfl
theorem wd_123 : (Jvm.Cond.code ({ cls := "CodeVerifier$Told", name := "kindAt", desc := "(I)LCodeVerifier$Kind;" } : Jvm.MethodName) prog_8_method_2_code (2 : Nat) (Option.some (Jvm.ClassFile.FieldType.object "CodeVerifier$Kind"))) ∈ zT := zT_of (zt1 (List.mem_of_getElem? (i := 123) rfl)) rfl
theorem wd_124 : (Jvm.Cond.methodLink "CodeVerifier" (29 : Nat) ({ cls := "CodeVerifier$Told", name := "addKind", desc := "(LCodeVerifier$Kind;)I" } : Jvm.MethodName)) ∈ zT := zT_of (zt1 (List.mem_of_getElem? (i := 124) rfl)) rfl
theorem wd_125 : (Jvm.Cond.instanceMethod ({ cls := "CodeVerifier$Told", name := "addKind", desc := "(LCodeVerifier$Kind;)I" } : Jvm.MethodName)) ∈ zT := zT_of (zt1 (List.mem_of_getElem? (i := 125) rfl)) rfl
theorem wd_126 : (Jvm.Cond.selects "CodeVerifier$Told" ({ cls := "CodeVerifier$Told", name := "addKind", desc := "(LCodeVerifier$Kind;)I" } : Jvm.MethodName) ({ cls := "CodeVerifier$Told", name := "addKind", desc := "(LCodeVerifier$Kind;)I" } : Jvm.MethodName)) ∈ zT := zT_of (zt1 (List.mem_of_getElem? (i := 126) rfl)) rfl
theorem wd_127 : (Jvm.Cond.code ({ cls := "CodeVerifier$Told", name := "addKind", desc := "(LCodeVerifier$Kind;)I" } : Jvm.MethodName) prog_8_method_4_code (2 : Nat) (Option.some Jvm.ClassFile.FieldType.int)) ∈ zT := zT_of (zt1 (List.mem_of_getElem? (i := 127) rfl)) rfl
theorem wd_128 : (Jvm.Cond.instantiable "CodeVerifier$Kind" (7 : Nat)) ∈ zT := zT_of (zt1 (List.mem_of_getElem? (i := 128) rfl)) rfl
theorem wd_129 : (Jvm.Cond.methodLink "CodeVerifier$Told" (30 : Nat) ({ cls := "CodeVerifier$Kind", name := "<init>", desc := "(ILCodeVerifier$Kind;)V" } : Jvm.MethodName)) ∈ zT := zT_of (zt1 (List.mem_of_getElem? (i := 129) rfl)) rfl
theorem wd_130 : (Jvm.Cond.instanceMethod ({ cls := "CodeVerifier$Kind", name := "<init>", desc := "(ILCodeVerifier$Kind;)V" } : Jvm.MethodName)) ∈ zT := zT_of (zt1 (List.mem_of_getElem? (i := 130) rfl)) rfl
theorem wd_131 : (Jvm.Cond.code ({ cls := "CodeVerifier$Kind", name := "<init>", desc := "(ILCodeVerifier$Kind;)V" } : Jvm.MethodName) prog_4_method_1_code (5 : Nat) (Option.none : Option Jvm.ClassFile.FieldType)) ∈ zT := zT_of (zt1 (List.mem_of_getElem? (i := 131) rfl)) rfl
theorem wd_132 : (Jvm.Cond.methodLink "CodeVerifier$Kind" (3 : Nat) ({ cls := "java/lang/Object", name := "<init>", desc := "()V" } : Jvm.MethodName)) ∈ zT := zT_of (zt1 (List.mem_of_getElem? (i := 132) rfl)) rfl
theorem wd_133 : (Jvm.Cond.methodLink "CodeVerifier$Kind" (25 : Nat) ({ cls := "java/util/Arrays", name := "fill", desc := "([II)V" } : Jvm.MethodName)) ∈ zT := zT_of (zt1 (List.mem_of_getElem? (i := 133) rfl)) rfl
theorem wd_134 : (Jvm.Cond.static ({ cls := "java/util/Arrays", name := "fill", desc := "([II)V" } : Jvm.MethodName)) ∈ zT := zT_of (zt1 (List.mem_of_getElem? (i := 134) rfl)) rfl
theorem wd_135 : (Jvm.Cond.code ({ cls := "java/util/Arrays", name := "fill", desc := "([II)V" } : Jvm.MethodName) prog_13_method_103_code (4 : Nat) (Option.none : Option Jvm.ClassFile.FieldType)) ∈ zT := zT_of (zt1 (List.mem_of_getElem? (i := 135) rfl)) rfl
theorem wd_136 : (Jvm.Cond.fieldLink "CodeVerifier$Kind" (18 : Nat) "CodeVerifier$Kind" "number" "I") ∈ zT := zT_of (zt1 (List.mem_of_getElem? (i := 136) rfl)) rfl
theorem wd_137 : (Jvm.Cond.fieldLink "CodeVerifier$Told" (84 : Nat) "CodeVerifier$Kind" "number" "I") ∈ zT := zT_of (zt1 (List.mem_of_getElem? (i := 137) rfl)) rfl
theorem wd_138 : (Jvm.Cond.fieldLink "CodeVerifier$Kind" (22 : Nat) "CodeVerifier$Kind" "line" "I") ∈ zT := zT_of (zt1 (List.mem_of_getElem? (i := 138) rfl)) rfl
theorem wd_139 : (Jvm.Cond.fieldLink "CodeVerifier$Told" (94 : Nat) "CodeVerifier$Kind" "line" "I") ∈ zT := zT_of (zt1 (List.mem_of_getElem? (i := 139) rfl)) rfl
theorem wd_140 : (Jvm.Cond.fieldLink "CodeVerifier$Kind" (9 : Nat) "CodeVerifier$Kind" "fields" "[I") ∈ zT := zT_of (zt1 (List.mem_of_getElem? (i := 140) rfl)) rfl
theorem wd_141 : (Jvm.Cond.fieldLink "CodeVerifier$Kind" (15 : Nat) "CodeVerifier$Kind" "slots" "[I") ∈ zT := zT_of (zt1 (List.mem_of_getElem? (i := 141) rfl)) rfl
theorem wd_142 : (Jvm.Cond.fieldLink "CodeVerifier" (82 : Nat) "CodeVerifier$Kind" "slots" "[I") ∈ zT := zT_of (zt1 (List.mem_of_getElem? (i := 142) rfl)) rfl
theorem wd_143 : (Jvm.Cond.fieldLink "CodeVerifier$Kind" (31 : Nat) "CodeVerifier$Kind" "fieldCount" "I") ∈ zT := zT_of (zt1 (List.mem_of_getElem? (i := 143) rfl)) rfl
theorem wd_144 : (Jvm.Cond.fieldLink "CodeVerifier" (37 : Nat) "CodeVerifier$Kind" "isAboveAnother" "Z") ∈ zT := zT_of (zt1 (List.mem_of_getElem? (i := 144) rfl)) rfl
theorem wd_145 : (Jvm.Cond.fieldLink "CodeVerifier$Told" (33 : Nat) "CodeVerifier$Kind" "isAboveAnother" "Z") ∈ zT := zT_of (zt1 (List.mem_of_getElem? (i := 145) rfl)) rfl
theorem wd_146 : (Jvm.Cond.fieldLink "CodeVerifier" (43 : Nat) "CodeVerifier$Kind" "isOwner" "Z") ∈ zT := zT_of (zt1 (List.mem_of_getElem? (i := 146) rfl)) rfl
theorem wd_147 : (Jvm.Cond.fieldLink "CodeVerifier$Told" (40 : Nat) "CodeVerifier$Kind" "isOwner" "Z") ∈ zT := zT_of (zt1 (List.mem_of_getElem? (i := 147) rfl)) rfl
theorem wd_148 : (Jvm.Cond.laysFinal "CodeVerifier$Kind" "CodeVerifier$Kind" "number" "I") ∈ zT := zT_of (zt1 (List.mem_of_getElem? (i := 148) rfl)) rfl
theorem wd_150 : (Jvm.Cond.laysFinal "CodeVerifier$Kind" "CodeVerifier$Kind" "line" "I") ∈ zT := zT_of (zt1 (List.mem_of_getElem? (i := 150) rfl)) rfl
theorem wd_152 : (Jvm.Cond.laysFinal "CodeVerifier$Kind" "CodeVerifier$Kind" "fields" "[I") ∈ zT := zT_of (zt1 (List.mem_of_getElem? (i := 152) rfl)) rfl
theorem wd_154 : (Jvm.Cond.laysFinal "CodeVerifier$Kind" "CodeVerifier$Kind" "slots" "[I") ∈ zT := zT_of (zt1 (List.mem_of_getElem? (i := 154) rfl)) rfl
theorem wd_156 : (Jvm.Cond.lays "CodeVerifier$Kind" "CodeVerifier$Kind" "fieldCount" "I") ∈ zT := zT_of (zt1 (List.mem_of_getElem? (i := 156) rfl)) rfl
theorem wd_158 : (Jvm.Cond.lays "CodeVerifier$Kind" "CodeVerifier$Kind" "isAboveAnother" "Z") ∈ zT := zT_of (zt1 (List.mem_of_getElem? (i := 158) rfl)) rfl
theorem wd_160 : (Jvm.Cond.lays "CodeVerifier$Kind" "CodeVerifier$Kind" "isOwner" "Z") ∈ zT := zT_of (zt1 (List.mem_of_getElem? (i := 160) rfl)) rfl
theorem wd_163 : (Jvm.Cond.methodLink "CodeVerifierLaw" (18 : Nat) ({ cls := "CodeVerifier", name := "field", desc := "(II)I" } : Jvm.MethodName)) ∈ zT := zT_of (zt1 (List.mem_of_getElem? (i := 163) rfl)) rfl
theorem wd_164 : (Jvm.Cond.instanceMethod ({ cls := "CodeVerifier", name := "field", desc := "(II)I" } : Jvm.MethodName)) ∈ zT := zT_of (zt1 (List.mem_of_getElem? (i := 164) rfl)) rfl
theorem wd_165 : (Jvm.Cond.selects "CodeVerifier" ({ cls := "CodeVerifier", name := "field", desc := "(II)I" } : Jvm.MethodName) ({ cls := "CodeVerifier", name := "field", desc := "(II)I" } : Jvm.MethodName)) ∈ zT := zT_of (zt1 (List.mem_of_getElem? (i := 165) rfl)) rfl
theorem wd_166 : (Jvm.Cond.code ({ cls := "CodeVerifier", name := "field", desc := "(II)I" } : Jvm.MethodName) prog_1_method_3_code (4 : Nat) (Option.some Jvm.ClassFile.FieldType.int)) ∈ zT := zT_of (zt1 (List.mem_of_getElem? (i := 166) rfl)) rfl
theorem wd_167 : (Jvm.Cond.methodLink "CodeVerifier" (33 : Nat) ({ cls := "CodeVerifier$Told", name := "isType", desc := "(I)Z" } : Jvm.MethodName)) ∈ zT := zT_of (zt1 (List.mem_of_getElem? (i := 167) rfl)) rfl
theorem wd_168 : (Jvm.Cond.instanceMethod ({ cls := "CodeVerifier$Told", name := "isType", desc := "(I)Z" } : Jvm.MethodName)) ∈ zT := zT_of (zt1 (List.mem_of_getElem? (i := 168) rfl)) rfl
theorem wd_169 : (Jvm.Cond.selects "CodeVerifier$Told" ({ cls := "CodeVerifier$Told", name := "isType", desc := "(I)Z" } : Jvm.MethodName) ({ cls := "CodeVerifier$Told", name := "isType", desc := "(I)Z" } : Jvm.MethodName)) ∈ zT := zT_of (zt1 (List.mem_of_getElem? (i := 169) rfl)) rfl
theorem wd_170 : (Jvm.Cond.code ({ cls := "CodeVerifier$Told", name := "isType", desc := "(I)Z" } : Jvm.MethodName) prog_8_method_6_code (2 : Nat) (Option.some Jvm.ClassFile.FieldType.boolean)) ∈ zT := zT_of (zt1 (List.mem_of_getElem? (i := 170) rfl)) rfl
theorem wd_171 : (Jvm.Cond.methodLinkNest "CodeVerifier$Told" (43 : Nat) ({ cls := "CodeVerifier", name := "isRowType", desc := "(I)Z" } : Jvm.MethodName) "CodeVerifier") ∈ tables_1 := zt1 (List.mem_of_getElem? (i := 171) rfl)
theorem wd_172 : (Jvm.Cond.static ({ cls := "CodeVerifier", name := "isRowType", desc := "(I)Z" } : Jvm.MethodName)) ∈ zT := zT_of (zt1 (List.mem_of_getElem? (i := 172) rfl)) rfl
theorem wd_173 : (Jvm.Cond.code ({ cls := "CodeVerifier", name := "isRowType", desc := "(I)Z" } : Jvm.MethodName) prog_1_method_15_code (1 : Nat) (Option.some Jvm.ClassFile.FieldType.boolean)) ∈ zT := zT_of (zt1 (List.mem_of_getElem? (i := 173) rfl)) rfl
theorem wd_174 : (Jvm.Cond.methodLinkNest "CodeVerifier$Told" (47 : Nat) ({ cls := "CodeVerifier", name := "elementOf", desc := "(I)I" } : Jvm.MethodName) "CodeVerifier") ∈ tables_1 := zt1 (List.mem_of_getElem? (i := 174) rfl)
theorem wd_175 : (Jvm.Cond.static ({ cls := "CodeVerifier", name := "elementOf", desc := "(I)I" } : Jvm.MethodName)) ∈ zT := zT_of (zt1 (List.mem_of_getElem? (i := 175) rfl)) rfl
theorem wd_176 : (Jvm.Cond.code ({ cls := "CodeVerifier", name := "elementOf", desc := "(I)I" } : Jvm.MethodName) prog_1_method_18_code (1 : Nat) (Option.some Jvm.ClassFile.FieldType.int)) ∈ zT := zT_of (zt1 (List.mem_of_getElem? (i := 176) rfl)) rfl
theorem wd_177 : (Jvm.Cond.methodLink "CodeVerifier$Told" (51 : Nat) ({ cls := "CodeVerifier$Told", name := "kindOf", desc := "(I)LCodeVerifier$Kind;" } : Jvm.MethodName)) ∈ zT := zT_of (zt1 (List.mem_of_getElem? (i := 177) rfl)) rfl
theorem wd_179 : (Jvm.Cond.instanceMethod ({ cls := "CodeVerifier$Told", name := "kindOf", desc := "(I)LCodeVerifier$Kind;" } : Jvm.MethodName)) ∈ zT := zT_of (zt1 (List.mem_of_getElem? (i := 179) rfl)) rfl
theorem wd_180 : (Jvm.Cond.code ({ cls := "CodeVerifier$Told", name := "kindOf", desc := "(I)LCodeVerifier$Kind;" } : Jvm.MethodName) prog_8_method_13_code (3 : Nat) (Option.some (Jvm.ClassFile.FieldType.object "CodeVerifier$Kind"))) ∈ zT := zT_of (zt1 (List.mem_of_getElem? (i := 180) rfl)) rfl
theorem wd_181 : (Jvm.Cond.methodLink "CodeVerifier" (46 : Nat) ({ cls := "CodeVerifier$Kind", name := "addField", desc := "(I)I" } : Jvm.MethodName)) ∈ zT := zT_of (zt1 (List.mem_of_getElem? (i := 181) rfl)) rfl
theorem wd_182 : (Jvm.Cond.instanceMethod ({ cls := "CodeVerifier$Kind", name := "addField", desc := "(I)I" } : Jvm.MethodName)) ∈ zT := zT_of (zt1 (List.mem_of_getElem? (i := 182) rfl)) rfl
theorem wd_183 : (Jvm.Cond.selects "CodeVerifier$Kind" ({ cls := "CodeVerifier$Kind", name := "addField", desc := "(I)I" } : Jvm.MethodName) ({ cls := "CodeVerifier$Kind", name := "addField", desc := "(I)I" } : Jvm.MethodName)) ∈ zT := zT_of (zt1 (List.mem_of_getElem? (i := 183) rfl)) rfl
theorem wd_184 : (Jvm.Cond.code ({ cls := "CodeVerifier$Kind", name := "addField", desc := "(I)I" } : Jvm.MethodName) prog_4_method_4_code (2 : Nat) (Option.some Jvm.ClassFile.FieldType.int)) ∈ zT := zT_of (zt1 (List.mem_of_getElem? (i := 184) rfl)) rfl
theorem wd_185 : (Jvm.Cond.methodLink "CodeVerifierLaw" (23 : Nat) ({ cls := "CodeVerifier", name := "method", desc := "(IIII)I" } : Jvm.MethodName)) ∈ zT := zT_of (zt1 (List.mem_of_getElem? (i := 185) rfl)) rfl
theorem wd_186 : (Jvm.Cond.instanceMethod ({ cls := "CodeVerifier", name := "method", desc := "(IIII)I" } : Jvm.MethodName)) ∈ zT := zT_of (zt1 (List.mem_of_getElem? (i := 186) rfl)) rfl
theorem wd_187 : (Jvm.Cond.selects "CodeVerifier" ({ cls := "CodeVerifier", name := "method", desc := "(IIII)I" } : Jvm.MethodName) ({ cls := "CodeVerifier", name := "method", desc := "(IIII)I" } : Jvm.MethodName)) ∈ zT := zT_of (zt1 (List.mem_of_getElem? (i := 187) rfl)) rfl
theorem wd_188 : (Jvm.Cond.code ({ cls := "CodeVerifier", name := "method", desc := "(IIII)I" } : Jvm.MethodName) prog_1_method_4_code (6 : Nat) (Option.some Jvm.ClassFile.FieldType.int)) ∈ zT := zT_of (zt1 (List.mem_of_getElem? (i := 188) rfl)) rfl
theorem wd_189 : (Jvm.Cond.methodLink "CodeVerifier" (50 : Nat) ({ cls := "CodeVerifier", name := "isRoom", desc := "(II)Z" } : Jvm.MethodName)) ∈ zT := zT_of (zt1 (List.mem_of_getElem? (i := 189) rfl)) rfl
theorem wd_190 : (Jvm.Cond.static ({ cls := "CodeVerifier", name := "isRoom", desc := "(II)Z" } : Jvm.MethodName)) ∈ zT := zT_of (zt1 (List.mem_of_getElem? (i := 190) rfl)) rfl
theorem wd_191 : (Jvm.Cond.code ({ cls := "CodeVerifier", name := "isRoom", desc := "(II)Z" } : Jvm.MethodName) prog_1_method_12_code (2 : Nat) (Option.some Jvm.ClassFile.FieldType.boolean)) ∈ zT := zT_of (zt1 (List.mem_of_getElem? (i := 191) rfl)) rfl
theorem wd_192 : (Jvm.Cond.methodLink "CodeVerifier" (54 : Nat) ({ cls := "CodeVerifier$Told", name := "addMethod", desc := "(LCodeVerifier$Kind;III)I" } : Jvm.MethodName)) ∈ zT := zT_of (zt1 (List.mem_of_getElem? (i := 192) rfl)) rfl
theorem wd_193 : (Jvm.Cond.instanceMethod ({ cls := "CodeVerifier$Told", name := "addMethod", desc := "(LCodeVerifier$Kind;III)I" } : Jvm.MethodName)) ∈ zT := zT_of (zt1 (List.mem_of_getElem? (i := 193) rfl)) rfl
theorem wd_194 : (Jvm.Cond.selects "CodeVerifier$Told" ({ cls := "CodeVerifier$Told", name := "addMethod", desc := "(LCodeVerifier$Kind;III)I" } : Jvm.MethodName) ({ cls := "CodeVerifier$Told", name := "addMethod", desc := "(LCodeVerifier$Kind;III)I" } : Jvm.MethodName)) ∈ zT := zT_of (zt1 (List.mem_of_getElem? (i := 194) rfl)) rfl
theorem wd_195 : (Jvm.Cond.code ({ cls := "CodeVerifier$Told", name := "addMethod", desc := "(LCodeVerifier$Kind;III)I" } : Jvm.MethodName) prog_8_method_5_code (5 : Nat) (Option.some Jvm.ClassFile.FieldType.int)) ∈ zT := zT_of (zt1 (List.mem_of_getElem? (i := 195) rfl)) rfl
theorem wd_196 : (Jvm.Cond.instantiable "CodeVerifier$Method" (12 : Nat)) ∈ zT := zT_of (zt1 (List.mem_of_getElem? (i := 196) rfl)) rfl
theorem wd_197 : (Jvm.Cond.methodLink "CodeVerifier$Told" (37 : Nat) ({ cls := "CodeVerifier$Method", name := "<init>", desc := "(LCodeVerifier$Kind;III)V" } : Jvm.MethodName)) ∈ zT := zT_of (zt1 (List.mem_of_getElem? (i := 197) rfl)) rfl
theorem wd_198 : (Jvm.Cond.instanceMethod ({ cls := "CodeVerifier$Method", name := "<init>", desc := "(LCodeVerifier$Kind;III)V" } : Jvm.MethodName)) ∈ zT := zT_of (zt1 (List.mem_of_getElem? (i := 198) rfl)) rfl
theorem wd_199 : (Jvm.Cond.code ({ cls := "CodeVerifier$Method", name := "<init>", desc := "(LCodeVerifier$Kind;III)V" } : Jvm.MethodName) prog_5_method_1_code (5 : Nat) (Option.none : Option Jvm.ClassFile.FieldType)) ∈ zT := zT_of (zt1 (List.mem_of_getElem? (i := 199) rfl)) rfl
theorem wd_200 : (Jvm.Cond.methodLink "CodeVerifier$Method" (3 : Nat) ({ cls := "java/lang/Object", name := "<init>", desc := "()V" } : Jvm.MethodName)) ∈ zT := zT_of (zt1 (List.mem_of_getElem? (i := 200) rfl)) rfl
theorem wd_201 : (Jvm.Cond.classLink "CodeVerifier$Method" (15 : Nat) "CodeVerifier$Instruction") ∈ zT := zT_of (zt1 (List.mem_of_getElem? (i := 201) rfl)) rfl
theorem wd_202 : (Jvm.Cond.arrayOver (Jvm.ClassFile.FieldType.object "CodeVerifier$Instruction")) ∈ tables_1 := zt1 (List.mem_of_getElem? (i := 202) rfl)
theorem wd_203 : (Jvm.Cond.classLink "CodeVerifier$Method" (21 : Nat) "CodeVerifier$Handler") ∈ zT := zT_of (zt1 (List.mem_of_getElem? (i := 203) rfl)) rfl
theorem wd_204 : (Jvm.Cond.arrayOver (Jvm.ClassFile.FieldType.object "CodeVerifier$Handler")) ∈ tables_1 := zt1 (List.mem_of_getElem? (i := 204) rfl)
theorem wd_205 : (Jvm.Cond.methodLink "CodeVerifier$Method" (41 : Nat) ({ cls := "CodeVerifier$Kind", name := "asType", desc := "()I" } : Jvm.MethodName)) ∈ zT := zT_of (zt1 (List.mem_of_getElem? (i := 205) rfl)) rfl
theorem wd_206 : (Jvm.Cond.instanceMethod ({ cls := "CodeVerifier$Kind", name := "asType", desc := "()I" } : Jvm.MethodName)) ∈ zT := zT_of (zt1 (List.mem_of_getElem? (i := 206) rfl)) rfl
theorem wd_207 : (Jvm.Cond.selects "CodeVerifier$Kind" ({ cls := "CodeVerifier$Kind", name := "asType", desc := "()I" } : Jvm.MethodName) ({ cls := "CodeVerifier$Kind", name := "asType", desc := "()I" } : Jvm.MethodName)) ∈ zT := zT_of (zt1 (List.mem_of_getElem? (i := 207) rfl)) rfl
theorem wd_208 : (Jvm.Cond.code ({ cls := "CodeVerifier$Kind", name := "asType", desc := "()I" } : Jvm.MethodName) prog_4_method_2_code (1 : Nat) (Option.some Jvm.ClassFile.FieldType.int)) ∈ zT := zT_of (zt1 (List.mem_of_getElem? (i := 208) rfl)) rfl
theorem wd_209 : (Jvm.Cond.fieldLink "CodeVerifier$Method" (27 : Nat) "CodeVerifier$Method" "owner" "LCodeVerifier$Kind;") ∈ zT := zT_of (zt1 (List.mem_of_getElem? (i := 209) rfl)) rfl
theorem wd_210 : (Jvm.Cond.fieldLink "CodeVerifier" (71 : Nat) "CodeVerifier$Method" "owner" "LCodeVerifier$Kind;") ∈ zT := zT_of (zt1 (List.mem_of_getElem? (i := 210) rfl)) rfl
theorem wd_211 : (Jvm.Cond.fieldLink "CodeVerifier$Method" (31 : Nat) "CodeVerifier$Method" "gives" "I") ∈ zT := zT_of (zt1 (List.mem_of_getElem? (i := 211) rfl)) rfl
theorem wd_212 : (Jvm.Cond.fieldLink "CodeVerifier$Step" (133 : Nat) "CodeVerifier$Method" "gives" "I") ∈ zT := zT_of (zt1 (List.mem_of_getElem? (i := 212) rfl)) rfl
theorem wd_213 : (Jvm.Cond.fieldLink "CodeVerifier$Method" (35 : Nat) "CodeVerifier$Method" "locals" "I") ∈ zT := zT_of (zt1 (List.mem_of_getElem? (i := 213) rfl)) rfl
theorem wd_214 : (Jvm.Cond.fieldLink "CodeVerifier$Row" (15 : Nat) "CodeVerifier$Method" "locals" "I") ∈ zT := zT_of (zt1 (List.mem_of_getElem? (i := 214) rfl)) rfl
theorem wd_215 : (Jvm.Cond.fieldLink "CodeVerifier$Told" (58 : Nat) "CodeVerifier$Method" "locals" "I") ∈ zT := zT_of (zt1 (List.mem_of_getElem? (i := 215) rfl)) rfl
theorem wd_216 : (Jvm.Cond.fieldLink "CodeVerifier$Method" (38 : Nat) "CodeVerifier$Method" "stack" "I") ∈ zT := zT_of (zt1 (List.mem_of_getElem? (i := 216) rfl)) rfl
theorem wd_217 : (Jvm.Cond.fieldLink "CodeVerifier$Row" (22 : Nat) "CodeVerifier$Method" "stack" "I") ∈ zT := zT_of (zt1 (List.mem_of_getElem? (i := 217) rfl)) rfl
theorem wd_218 : (Jvm.Cond.fieldLink "CodeVerifier$Method" (9 : Nat) "CodeVerifier$Method" "parameters" "[I") ∈ zT := zT_of (zt1 (List.mem_of_getElem? (i := 218) rfl)) rfl
theorem wd_219 : (Jvm.Cond.fieldLink "CodeVerifier$Method" (17 : Nat) "CodeVerifier$Method" "instructions" "[LCodeVerifier$Instruction;") ∈ zT := zT_of (zt1 (List.mem_of_getElem? (i := 219) rfl)) rfl
theorem wd_220 : (Jvm.Cond.fieldLink "CodeVerifier$Method" (23 : Nat) "CodeVerifier$Method" "handlers" "[LCodeVerifier$Handler;") ∈ zT := zT_of (zt1 (List.mem_of_getElem? (i := 220) rfl)) rfl
theorem wd_221 : (Jvm.Cond.fieldLink "CodeVerifier$Method" (47 : Nat) "CodeVerifier$Method" "parameterCount" "I") ∈ zT := zT_of (zt1 (List.mem_of_getElem? (i := 221) rfl)) rfl
theorem wd_222 : (Jvm.Cond.fieldLink "CodeVerifier$Row" (31 : Nat) "CodeVerifier$Method" "parameterCount" "I") ∈ zT := zT_of (zt1 (List.mem_of_getElem? (i := 222) rfl)) rfl
theorem wd_223 : (Jvm.Cond.fieldLink "CodeVerifier$Step" (125 : Nat) "CodeVerifier$Method" "parameterCount" "I") ∈ zT := zT_of (zt1 (List.mem_of_getElem? (i := 223) rfl)) rfl
theorem wd_224 : (Jvm.Cond.fieldLink "CodeVerifier$Method" (50 : Nat) "CodeVerifier$Method" "instructionCount" "I") ∈ zT := zT_of (zt1 (List.mem_of_getElem? (i := 224) rfl)) rfl
theorem wd_225 : (Jvm.Cond.fieldLink "CodeVerifier$Walk" (60 : Nat) "CodeVerifier$Method" "instructionCount" "I") ∈ zT := zT_of (zt1 (List.mem_of_getElem? (i := 225) rfl)) rfl
theorem wd_226 : (Jvm.Cond.fieldLink "CodeVerifier$Walk" (105 : Nat) "CodeVerifier$Method" "handlerCount" "I") ∈ zT := zT_of (zt1 (List.mem_of_getElem? (i := 226) rfl)) rfl
theorem wd_227 : (Jvm.Cond.fieldLink "CodeVerifier$Method" (67 : Nat) "CodeVerifier$Method" "handlerCount" "I") ∈ zT := zT_of (zt1 (List.mem_of_getElem? (i := 227) rfl)) rfl
theorem wd_228 : (Jvm.Cond.fieldLink "CodeVerifier$Method" (53 : Nat) "CodeVerifier$Method" "stoodInSlot" "Z") ∈ zT := zT_of (zt1 (List.mem_of_getElem? (i := 228) rfl)) rfl
theorem wd_229 : (Jvm.Cond.fieldLink "CodeVerifier" (86 : Nat) "CodeVerifier$Method" "stoodInSlot" "Z") ∈ zT := zT_of (zt1 (List.mem_of_getElem? (i := 229) rfl)) rfl
theorem wd_230 : (Jvm.Cond.fieldLink "CodeVerifier$Walk" (54 : Nat) "CodeVerifier$Method" "isVerified" "Z") ∈ zT := zT_of (zt1 (List.mem_of_getElem? (i := 230) rfl)) rfl
theorem wd_231 : (Jvm.Cond.fieldLink "CodeVerifier$Method" (57 : Nat) "CodeVerifier$Method" "isVerified" "Z") ∈ zT := zT_of (zt1 (List.mem_of_getElem? (i := 231) rfl)) rfl
theorem wd_232 : (Jvm.Cond.fieldLink "CodeVerifier" (108 : Nat) "CodeVerifier$Method" "isVerified" "Z") ∈ zT := zT_of (zt1 (List.mem_of_getElem? (i := 232) rfl)) rfl
theorem wd_233 : (Jvm.Cond.laysFinal "CodeVerifier$Method" "CodeVerifier$Method" "owner" "LCodeVerifier$Kind;") ∈ zT := zT_of (zt1 (List.mem_of_getElem? (i := 233) rfl)) rfl
theorem wd_235 : (Jvm.Cond.laysFinal "CodeVerifier$Method" "CodeVerifier$Method" "gives" "I") ∈ zT := zT_of (zt1 (List.mem_of_getElem? (i := 235) rfl)) rfl
theorem wd_237 : (Jvm.Cond.laysFinal "CodeVerifier$Method" "CodeVerifier$Method" "locals" "I") ∈ zT := zT_of (zt1 (List.mem_of_getElem? (i := 237) rfl)) rfl
theorem wd_239 : (Jvm.Cond.laysFinal "CodeVerifier$Method" "CodeVerifier$Method" "stack" "I") ∈ zT := zT_of (zt1 (List.mem_of_getElem? (i := 239) rfl)) rfl
theorem wd_241 : (Jvm.Cond.laysFinal "CodeVerifier$Method" "CodeVerifier$Method" "parameters" "[I") ∈ zT := zT_of (zt2 (List.mem_of_getElem? (i := 1) rfl)) rfl
theorem wd_243 : (Jvm.Cond.laysFinal "CodeVerifier$Method" "CodeVerifier$Method" "instructions" "[LCodeVerifier$Instruction;") ∈ zT := zT_of (zt2 (List.mem_of_getElem? (i := 3) rfl)) rfl
theorem wd_245 : (Jvm.Cond.laysFinal "CodeVerifier$Method" "CodeVerifier$Method" "handlers" "[LCodeVerifier$Handler;") ∈ zT := zT_of (zt2 (List.mem_of_getElem? (i := 5) rfl)) rfl
theorem wd_247 : (Jvm.Cond.lays "CodeVerifier$Method" "CodeVerifier$Method" "parameterCount" "I") ∈ zT := zT_of (zt2 (List.mem_of_getElem? (i := 7) rfl)) rfl
theorem wd_249 : (Jvm.Cond.lays "CodeVerifier$Method" "CodeVerifier$Method" "instructionCount" "I") ∈ zT := zT_of (zt2 (List.mem_of_getElem? (i := 9) rfl)) rfl
theorem wd_251 : (Jvm.Cond.lays "CodeVerifier$Method" "CodeVerifier$Method" "handlerCount" "I") ∈ zT := zT_of (zt2 (List.mem_of_getElem? (i := 11) rfl)) rfl
theorem wd_253 : (Jvm.Cond.lays "CodeVerifier$Method" "CodeVerifier$Method" "stoodInSlot" "Z") ∈ zT := zT_of (zt2 (List.mem_of_getElem? (i := 13) rfl)) rfl
theorem wd_255 : (Jvm.Cond.lays "CodeVerifier$Method" "CodeVerifier$Method" "isVerified" "Z") ∈ zT := zT_of (zt2 (List.mem_of_getElem? (i := 15) rfl)) rfl
theorem wd_258 : (Jvm.Cond.methodLink "CodeVerifierLaw" (28 : Nat) ({ cls := "CodeVerifier", name := "parameter", desc := "(II)I" } : Jvm.MethodName)) ∈ zT := zT_of (zt2 (List.mem_of_getElem? (i := 18) rfl)) rfl
theorem wd_259 : (Jvm.Cond.instanceMethod ({ cls := "CodeVerifier", name := "parameter", desc := "(II)I" } : Jvm.MethodName)) ∈ zT := zT_of (zt2 (List.mem_of_getElem? (i := 19) rfl)) rfl
theorem wd_260 : (Jvm.Cond.selects "CodeVerifier" ({ cls := "CodeVerifier", name := "parameter", desc := "(II)I" } : Jvm.MethodName) ({ cls := "CodeVerifier", name := "parameter", desc := "(II)I" } : Jvm.MethodName)) ∈ zT := zT_of (zt2 (List.mem_of_getElem? (i := 20) rfl)) rfl
theorem wd_261 : (Jvm.Cond.code ({ cls := "CodeVerifier", name := "parameter", desc := "(II)I" } : Jvm.MethodName) prog_1_method_5_code (4 : Nat) (Option.some Jvm.ClassFile.FieldType.int)) ∈ zT := zT_of (zt2 (List.mem_of_getElem? (i := 21) rfl)) rfl
theorem wd_262 : (Jvm.Cond.methodLink "CodeVerifier" (58 : Nat) ({ cls := "CodeVerifier$Told", name := "methodAt", desc := "(I)LCodeVerifier$Method;" } : Jvm.MethodName)) ∈ zT := zT_of (zt2 (List.mem_of_getElem? (i := 22) rfl)) rfl
theorem wd_263 : (Jvm.Cond.instanceMethod ({ cls := "CodeVerifier$Told", name := "methodAt", desc := "(I)LCodeVerifier$Method;" } : Jvm.MethodName)) ∈ zT := zT_of (zt2 (List.mem_of_getElem? (i := 23) rfl)) rfl
theorem wd_264 : (Jvm.Cond.selects "CodeVerifier$Told" ({ cls := "CodeVerifier$Told", name := "methodAt", desc := "(I)LCodeVerifier$Method;" } : Jvm.MethodName) ({ cls := "CodeVerifier$Told", name := "methodAt", desc := "(I)LCodeVerifier$Method;" } : Jvm.MethodName)) ∈ zT := zT_of (zt2 (List.mem_of_getElem? (i := 24) rfl)) rfl
theorem wd_265 : (Jvm.Cond.code ({ cls := "CodeVerifier$Told", name := "methodAt", desc := "(I)LCodeVerifier$Method;" } : Jvm.MethodName) prog_8_method_3_code (2 : Nat) (Option.some (Jvm.ClassFile.FieldType.object "CodeVerifier$Method"))) ∈ zT := zT_of (zt2 (List.mem_of_getElem? (i := 25) rfl)) rfl
theorem wd_266 : (Jvm.Cond.methodLink "CodeVerifier" (62 : Nat) ({ cls := "CodeVerifier$Method", name := "isOpenForParameters", desc := "()Z" } : Jvm.MethodName)) ∈ zT := zT_of (zt2 (List.mem_of_getElem? (i := 26) rfl)) rfl
theorem wd_267 : (Jvm.Cond.instanceMethod ({ cls := "CodeVerifier$Method", name := "isOpenForParameters", desc := "()Z" } : Jvm.MethodName)) ∈ zT := zT_of (zt2 (List.mem_of_getElem? (i := 27) rfl)) rfl
theorem wd_268 : (Jvm.Cond.selects "CodeVerifier$Method" ({ cls := "CodeVerifier$Method", name := "isOpenForParameters", desc := "()Z" } : Jvm.MethodName) ({ cls := "CodeVerifier$Method", name := "isOpenForParameters", desc := "()Z" } : Jvm.MethodName)) ∈ zT := zT_of (zt2 (List.mem_of_getElem? (i := 28) rfl)) rfl
theorem wd_269 : (Jvm.Cond.code ({ cls := "CodeVerifier$Method", name := "isOpenForParameters", desc := "()Z" } : Jvm.MethodName) prog_5_method_2_code (1 : Nat) (Option.some Jvm.ClassFile.FieldType.boolean)) ∈ zT := zT_of (zt2 (List.mem_of_getElem? (i := 29) rfl)) rfl
theorem wd_270 : (Jvm.Cond.methodLink "CodeVerifier" (68 : Nat) ({ cls := "CodeVerifier$Method", name := "addParameter", desc := "(I)I" } : Jvm.MethodName)) ∈ zT := zT_of (zt2 (List.mem_of_getElem? (i := 30) rfl)) rfl
theorem wd_271 : (Jvm.Cond.instanceMethod ({ cls := "CodeVerifier$Method", name := "addParameter", desc := "(I)I" } : Jvm.MethodName)) ∈ zT := zT_of (zt2 (List.mem_of_getElem? (i := 31) rfl)) rfl
theorem wd_272 : (Jvm.Cond.selects "CodeVerifier$Method" ({ cls := "CodeVerifier$Method", name := "addParameter", desc := "(I)I" } : Jvm.MethodName) ({ cls := "CodeVerifier$Method", name := "addParameter", desc := "(I)I" } : Jvm.MethodName)) ∈ zT := zT_of (zt2 (List.mem_of_getElem? (i := 32) rfl)) rfl
theorem wd_273 : (Jvm.Cond.code ({ cls := "CodeVerifier$Method", name := "addParameter", desc := "(I)I" } : Jvm.MethodName) prog_5_method_3_code (2 : Nat) (Option.some Jvm.ClassFile.FieldType.int)) ∈ zT := zT_of (zt2 (List.mem_of_getElem? (i := 33) rfl)) rfl
theorem wd_274 : (Jvm.Cond.methodLink "CodeVerifierLaw" (32 : Nat) ({ cls := "CodeVerifier", name := "slot", desc := "(II)Z" } : Jvm.MethodName)) ∈ zT := zT_of (zt2 (List.mem_of_getElem? (i := 34) rfl)) rfl
theorem wd_275 : (Jvm.Cond.instanceMethod ({ cls := "CodeVerifier", name := "slot", desc := "(II)Z" } : Jvm.MethodName)) ∈ zT := zT_of (zt2 (List.mem_of_getElem? (i := 35) rfl)) rfl
theorem wd_276 : (Jvm.Cond.selects "CodeVerifier" ({ cls := "CodeVerifier", name := "slot", desc := "(II)Z" } : Jvm.MethodName) ({ cls := "CodeVerifier", name := "slot", desc := "(II)Z" } : Jvm.MethodName)) ∈ zT := zT_of (zt2 (List.mem_of_getElem? (i := 36) rfl)) rfl
theorem wd_277 : (Jvm.Cond.code ({ cls := "CodeVerifier", name := "slot", desc := "(II)Z" } : Jvm.MethodName) prog_1_method_6_code (6 : Nat) (Option.some Jvm.ClassFile.FieldType.boolean)) ∈ zT := zT_of (zt2 (List.mem_of_getElem? (i := 37) rfl)) rfl
theorem wd_278 : (Jvm.Cond.methodLink "CodeVerifier" (75 : Nat) ({ cls := "CodeVerifier$Kind", name := "inSlot", desc := "(I)I" } : Jvm.MethodName)) ∈ zT := zT_of (zt2 (List.mem_of_getElem? (i := 38) rfl)) rfl
theorem wd_279 : (Jvm.Cond.instanceMethod ({ cls := "CodeVerifier$Kind", name := "inSlot", desc := "(I)I" } : Jvm.MethodName)) ∈ zT := zT_of (zt2 (List.mem_of_getElem? (i := 39) rfl)) rfl
theorem wd_280 : (Jvm.Cond.selects "CodeVerifier$Kind" ({ cls := "CodeVerifier$Kind", name := "inSlot", desc := "(I)I" } : Jvm.MethodName) ({ cls := "CodeVerifier$Kind", name := "inSlot", desc := "(I)I" } : Jvm.MethodName)) ∈ zT := zT_of (zt2 (List.mem_of_getElem? (i := 40) rfl)) rfl
theorem wd_281 : (Jvm.Cond.code ({ cls := "CodeVerifier$Kind", name := "inSlot", desc := "(I)I" } : Jvm.MethodName) prog_4_method_6_code (2 : Nat) (Option.some Jvm.ClassFile.FieldType.int)) ∈ zT := zT_of (zt2 (List.mem_of_getElem? (i := 41) rfl)) rfl
theorem wd_282 : (Jvm.Cond.methodLink "CodeVerifier" (78 : Nat) ({ cls := "CodeVerifier$Method", name := "isCalledLike", desc := "(LCodeVerifier$Method;)Z" } : Jvm.MethodName)) ∈ zT := zT_of (zt2 (List.mem_of_getElem? (i := 42) rfl)) rfl
theorem wd_283 : (Jvm.Cond.instanceMethod ({ cls := "CodeVerifier$Method", name := "isCalledLike", desc := "(LCodeVerifier$Method;)Z" } : Jvm.MethodName)) ∈ zT := zT_of (zt2 (List.mem_of_getElem? (i := 43) rfl)) rfl
theorem wd_284 : (Jvm.Cond.selects "CodeVerifier$Method" ({ cls := "CodeVerifier$Method", name := "isCalledLike", desc := "(LCodeVerifier$Method;)Z" } : Jvm.MethodName) ({ cls := "CodeVerifier$Method", name := "isCalledLike", desc := "(LCodeVerifier$Method;)Z" } : Jvm.MethodName)) ∈ zT := zT_of (zt2 (List.mem_of_getElem? (i := 44) rfl)) rfl
theorem wd_285 : (Jvm.Cond.code ({ cls := "CodeVerifier$Method", name := "isCalledLike", desc := "(LCodeVerifier$Method;)Z" } : Jvm.MethodName) prog_5_method_5_code (3 : Nat) (Option.some Jvm.ClassFile.FieldType.boolean)) ∈ zT := zT_of (zt2 (List.mem_of_getElem? (i := 45) rfl)) rfl
theorem wd_286 : (Jvm.Cond.methodLink "CodeVerifier$Method" (60 : Nat) ({ cls := "CodeVerifier$Method", name := "parameterAt", desc := "(I)I" } : Jvm.MethodName)) ∈ zT := zT_of (zt2 (List.mem_of_getElem? (i := 46) rfl)) rfl
theorem wd_287 : (Jvm.Cond.instanceMethod ({ cls := "CodeVerifier$Method", name := "parameterAt", desc := "(I)I" } : Jvm.MethodName)) ∈ zT := zT_of (zt2 (List.mem_of_getElem? (i := 47) rfl)) rfl
theorem wd_288 : (Jvm.Cond.selects "CodeVerifier$Method" ({ cls := "CodeVerifier$Method", name := "parameterAt", desc := "(I)I" } : Jvm.MethodName) ({ cls := "CodeVerifier$Method", name := "parameterAt", desc := "(I)I" } : Jvm.MethodName)) ∈ zT := zT_of (zt2 (List.mem_of_getElem? (i := 48) rfl)) rfl
theorem wd_289 : (Jvm.Cond.code ({ cls := "CodeVerifier$Method", name := "parameterAt", desc := "(I)I" } : Jvm.MethodName) prog_5_method_4_code (2 : Nat) (Option.some Jvm.ClassFile.FieldType.int)) ∈ zT := zT_of (zt2 (List.mem_of_getElem? (i := 49) rfl)) rfl
theorem wd_290 : (Jvm.Cond.methodLink "CodeVerifierLaw" (37 : Nat) ({ cls := "CodeVerifier", name := "op", desc := "(IIII)I" } : Jvm.MethodName)) ∈ zT := zT_of (zt2 (List.mem_of_getElem? (i := 50) rfl)) rfl
theorem wd_291 : (Jvm.Cond.instanceMethod ({ cls := "CodeVerifier", name := "op", desc := "(IIII)I" } : Jvm.MethodName)) ∈ zT := zT_of (zt2 (List.mem_of_getElem? (i := 51) rfl)) rfl
theorem wd_292 : (Jvm.Cond.selects "CodeVerifier" ({ cls := "CodeVerifier", name := "op", desc := "(IIII)I" } : Jvm.MethodName) ({ cls := "CodeVerifier", name := "op", desc := "(IIII)I" } : Jvm.MethodName)) ∈ zT := zT_of (zt2 (List.mem_of_getElem? (i := 52) rfl)) rfl
theorem wd_293 : (Jvm.Cond.code ({ cls := "CodeVerifier", name := "op", desc := "(IIII)I" } : Jvm.MethodName) prog_1_method_7_code (6 : Nat) (Option.some Jvm.ClassFile.FieldType.int)) ∈ zT := zT_of (zt2 (List.mem_of_getElem? (i := 53) rfl)) rfl
theorem wd_294 : (Jvm.Cond.methodLink "CodeVerifier" (89 : Nat) ({ cls := "CodeVerifier$Told", name := "areOperands", desc := "(LCodeVerifier$Method;III)Z" } : Jvm.MethodName)) ∈ zT := zT_of (zt2 (List.mem_of_getElem? (i := 54) rfl)) rfl
theorem wd_295 : (Jvm.Cond.instanceMethod ({ cls := "CodeVerifier$Told", name := "areOperands", desc := "(LCodeVerifier$Method;III)Z" } : Jvm.MethodName)) ∈ zT := zT_of (zt2 (List.mem_of_getElem? (i := 55) rfl)) rfl
theorem wd_296 : (Jvm.Cond.selects "CodeVerifier$Told" ({ cls := "CodeVerifier$Told", name := "areOperands", desc := "(LCodeVerifier$Method;III)Z" } : Jvm.MethodName) ({ cls := "CodeVerifier$Told", name := "areOperands", desc := "(LCodeVerifier$Method;III)Z" } : Jvm.MethodName)) ∈ zT := zT_of (zt2 (List.mem_of_getElem? (i := 56) rfl)) rfl
theorem wd_297 : (Jvm.Cond.code ({ cls := "CodeVerifier$Told", name := "areOperands", desc := "(LCodeVerifier$Method;III)Z" } : Jvm.MethodName) prog_8_method_7_code (5 : Nat) (Option.some Jvm.ClassFile.FieldType.boolean)) ∈ zT := zT_of (zt2 (List.mem_of_getElem? (i := 57) rfl)) rfl
theorem wd_298 : (Jvm.Cond.methodLinkNest "CodeVerifier$Told" (55 : Nat) ({ cls := "CodeVerifier", name := "isPlace", desc := "(I)Z" } : Jvm.MethodName) "CodeVerifier") ∈ tables_1 := zt2 (List.mem_of_getElem? (i := 58) rfl)
theorem wd_299 : (Jvm.Cond.static ({ cls := "CodeVerifier", name := "isPlace", desc := "(I)Z" } : Jvm.MethodName)) ∈ zT := zT_of (zt2 (List.mem_of_getElem? (i := 59) rfl)) rfl
theorem wd_300 : (Jvm.Cond.code ({ cls := "CodeVerifier", name := "isPlace", desc := "(I)Z" } : Jvm.MethodName) prog_1_method_13_code (1 : Nat) (Option.some Jvm.ClassFile.FieldType.boolean)) ∈ zT := zT_of (zt2 (List.mem_of_getElem? (i := 60) rfl)) rfl
theorem wd_301 : (Jvm.Cond.methodLink "CodeVerifier$Told" (61 : Nat) ({ cls := "CodeVerifier$Told", name := "kindAt", desc := "(I)LCodeVerifier$Kind;" } : Jvm.MethodName)) ∈ zT := zT_of (zt2 (List.mem_of_getElem? (i := 61) rfl)) rfl
theorem wd_302 : (Jvm.Cond.methodLink "CodeVerifier$Told" (64 : Nat) ({ cls := "CodeVerifier$Told", name := "fieldType", desc := "(II)I" } : Jvm.MethodName)) ∈ zT := zT_of (zt2 (List.mem_of_getElem? (i := 62) rfl)) rfl
theorem wd_303 : (Jvm.Cond.instanceMethod ({ cls := "CodeVerifier$Told", name := "fieldType", desc := "(II)I" } : Jvm.MethodName)) ∈ zT := zT_of (zt2 (List.mem_of_getElem? (i := 63) rfl)) rfl
theorem wd_304 : (Jvm.Cond.selects "CodeVerifier$Told" ({ cls := "CodeVerifier$Told", name := "fieldType", desc := "(II)I" } : Jvm.MethodName) ({ cls := "CodeVerifier$Told", name := "fieldType", desc := "(II)I" } : Jvm.MethodName)) ∈ zT := zT_of (zt2 (List.mem_of_getElem? (i := 64) rfl)) rfl
theorem wd_305 : (Jvm.Cond.code ({ cls := "CodeVerifier$Told", name := "fieldType", desc := "(II)I" } : Jvm.MethodName) prog_8_method_8_code (4 : Nat) (Option.some Jvm.ClassFile.FieldType.int)) ∈ zT := zT_of (zt2 (List.mem_of_getElem? (i := 65) rfl)) rfl
theorem wd_306 : (Jvm.Cond.methodLink "CodeVerifier$Told" (76 : Nat) ({ cls := "CodeVerifier$Kind", name := "fieldType", desc := "(I)I" } : Jvm.MethodName)) ∈ zT := zT_of (zt2 (List.mem_of_getElem? (i := 66) rfl)) rfl
theorem wd_307 : (Jvm.Cond.instanceMethod ({ cls := "CodeVerifier$Kind", name := "fieldType", desc := "(I)I" } : Jvm.MethodName)) ∈ zT := zT_of (zt2 (List.mem_of_getElem? (i := 67) rfl)) rfl
theorem wd_308 : (Jvm.Cond.selects "CodeVerifier$Kind" ({ cls := "CodeVerifier$Kind", name := "fieldType", desc := "(I)I" } : Jvm.MethodName) ({ cls := "CodeVerifier$Kind", name := "fieldType", desc := "(I)I" } : Jvm.MethodName)) ∈ zT := zT_of (zt2 (List.mem_of_getElem? (i := 68) rfl)) rfl
theorem wd_309 : (Jvm.Cond.code ({ cls := "CodeVerifier$Kind", name := "fieldType", desc := "(I)I" } : Jvm.MethodName) prog_4_method_5_code (2 : Nat) (Option.some Jvm.ClassFile.FieldType.int)) ∈ zT := zT_of (zt2 (List.mem_of_getElem? (i := 69) rfl)) rfl
theorem wd_310 : (Jvm.Cond.methodLink "CodeVerifier$Told" (68 : Nat) ({ cls := "CodeVerifier$Told", name := "methodAt", desc := "(I)LCodeVerifier$Method;" } : Jvm.MethodName)) ∈ zT := zT_of (zt2 (List.mem_of_getElem? (i := 70) rfl)) rfl
theorem wd_311 : (Jvm.Cond.methodLink "CodeVerifier$Told" (72 : Nat) ({ cls := "CodeVerifier$Told", name := "methodInSlot", desc := "(II)LCodeVerifier$Method;" } : Jvm.MethodName)) ∈ zT := zT_of (zt2 (List.mem_of_getElem? (i := 71) rfl)) rfl
theorem wd_312 : (Jvm.Cond.instanceMethod ({ cls := "CodeVerifier$Told", name := "methodInSlot", desc := "(II)LCodeVerifier$Method;" } : Jvm.MethodName)) ∈ zT := zT_of (zt2 (List.mem_of_getElem? (i := 72) rfl)) rfl
theorem wd_313 : (Jvm.Cond.selects "CodeVerifier$Told" ({ cls := "CodeVerifier$Told", name := "methodInSlot", desc := "(II)LCodeVerifier$Method;" } : Jvm.MethodName) ({ cls := "CodeVerifier$Told", name := "methodInSlot", desc := "(II)LCodeVerifier$Method;" } : Jvm.MethodName)) ∈ zT := zT_of (zt2 (List.mem_of_getElem? (i := 73) rfl)) rfl
theorem wd_314 : (Jvm.Cond.code ({ cls := "CodeVerifier$Told", name := "methodInSlot", desc := "(II)LCodeVerifier$Method;" } : Jvm.MethodName) prog_8_method_9_code (4 : Nat) (Option.some (Jvm.ClassFile.FieldType.object "CodeVerifier$Method"))) ∈ zT := zT_of (zt2 (List.mem_of_getElem? (i := 74) rfl)) rfl
theorem wd_315 : (Jvm.Cond.methodLink "CodeVerifier$Told" (78 : Nat) ({ cls := "CodeVerifier$Kind", name := "inSlot", desc := "(I)I" } : Jvm.MethodName)) ∈ zT := zT_of (zt2 (List.mem_of_getElem? (i := 75) rfl)) rfl
theorem wd_316 : (Jvm.Cond.methodLink "CodeVerifier" (93 : Nat) ({ cls := "CodeVerifier$Method", name := "addInstruction", desc := "(III)I" } : Jvm.MethodName)) ∈ zT := zT_of (zt2 (List.mem_of_getElem? (i := 76) rfl)) rfl
theorem wd_317 : (Jvm.Cond.instanceMethod ({ cls := "CodeVerifier$Method", name := "addInstruction", desc := "(III)I" } : Jvm.MethodName)) ∈ zT := zT_of (zt2 (List.mem_of_getElem? (i := 77) rfl)) rfl
theorem wd_318 : (Jvm.Cond.selects "CodeVerifier$Method" ({ cls := "CodeVerifier$Method", name := "addInstruction", desc := "(III)I" } : Jvm.MethodName) ({ cls := "CodeVerifier$Method", name := "addInstruction", desc := "(III)I" } : Jvm.MethodName)) ∈ zT := zT_of (zt2 (List.mem_of_getElem? (i := 78) rfl)) rfl
theorem wd_319 : (Jvm.Cond.code ({ cls := "CodeVerifier$Method", name := "addInstruction", desc := "(III)I" } : Jvm.MethodName) prog_5_method_6_code (4 : Nat) (Option.some Jvm.ClassFile.FieldType.int)) ∈ zT := zT_of (zt2 (List.mem_of_getElem? (i := 79) rfl)) rfl
theorem wd_320 : (Jvm.Cond.instantiable "CodeVerifier$Instruction" (6 : Nat)) ∈ zT := zT_of (zt2 (List.mem_of_getElem? (i := 80) rfl)) rfl
theorem wd_321 : (Jvm.Cond.methodLink "CodeVerifier$Method" (64 : Nat) ({ cls := "CodeVerifier$Instruction", name := "<init>", desc := "(III)V" } : Jvm.MethodName)) ∈ zT := zT_of (zt2 (List.mem_of_getElem? (i := 81) rfl)) rfl
theorem wd_322 : (Jvm.Cond.instanceMethod ({ cls := "CodeVerifier$Instruction", name := "<init>", desc := "(III)V" } : Jvm.MethodName)) ∈ zT := zT_of (zt2 (List.mem_of_getElem? (i := 82) rfl)) rfl
theorem wd_323 : (Jvm.Cond.code ({ cls := "CodeVerifier$Instruction", name := "<init>", desc := "(III)V" } : Jvm.MethodName) prog_3_method_1_code (4 : Nat) (Option.none : Option Jvm.ClassFile.FieldType)) ∈ zT := zT_of (zt2 (List.mem_of_getElem? (i := 83) rfl)) rfl
theorem wd_324 : (Jvm.Cond.methodLink "CodeVerifier$Instruction" (3 : Nat) ({ cls := "java/lang/Object", name := "<init>", desc := "()V" } : Jvm.MethodName)) ∈ zT := zT_of (zt2 (List.mem_of_getElem? (i := 84) rfl)) rfl
theorem wd_325 : (Jvm.Cond.classLink "CodeVerifier$Instruction" (9 : Nat) "CodeVerifier$Row") ∈ zT := zT_of (zt2 (List.mem_of_getElem? (i := 85) rfl)) rfl
theorem wd_326 : (Jvm.Cond.methodLinkNest "CodeVerifier$Instruction" (11 : Nat) ({ cls := "CodeVerifier$Row", name := "<init>", desc := "()V" } : Jvm.MethodName) "CodeVerifier") ∈ tables_1 := zt2 (List.mem_of_getElem? (i := 86) rfl)
theorem wd_327 : (Jvm.Cond.fieldLink "CodeVerifier$Instruction" (18 : Nat) "CodeVerifier$Instruction" "op" "I") ∈ zT := zT_of (zt2 (List.mem_of_getElem? (i := 87) rfl)) rfl
theorem wd_328 : (Jvm.Cond.fieldLink "CodeVerifier$Step" (23 : Nat) "CodeVerifier$Instruction" "op" "I") ∈ zT := zT_of (zt2 (List.mem_of_getElem? (i := 88) rfl)) rfl
theorem wd_329 : (Jvm.Cond.fieldLink "CodeVerifier$Instruction" (22 : Nat) "CodeVerifier$Instruction" "x" "I") ∈ zT := zT_of (zt2 (List.mem_of_getElem? (i := 89) rfl)) rfl
theorem wd_330 : (Jvm.Cond.fieldLink "CodeVerifier$Step" (56 : Nat) "CodeVerifier$Instruction" "x" "I") ∈ zT := zT_of (zt2 (List.mem_of_getElem? (i := 90) rfl)) rfl
theorem wd_331 : (Jvm.Cond.fieldLink "CodeVerifier$Walk" (102 : Nat) "CodeVerifier$Instruction" "x" "I") ∈ zT := zT_of (zt2 (List.mem_of_getElem? (i := 91) rfl)) rfl
theorem wd_332 : (Jvm.Cond.fieldLink "CodeVerifier$Instruction" (25 : Nat) "CodeVerifier$Instruction" "y" "I") ∈ zT := zT_of (zt2 (List.mem_of_getElem? (i := 92) rfl)) rfl
theorem wd_333 : (Jvm.Cond.fieldLink "CodeVerifier$Step" (95 : Nat) "CodeVerifier$Instruction" "y" "I") ∈ zT := zT_of (zt2 (List.mem_of_getElem? (i := 93) rfl)) rfl
theorem wd_334 : (Jvm.Cond.fieldLink "CodeVerifier$Instruction" (12 : Nat) "CodeVerifier$Instruction" "before" "LCodeVerifier$Row;") ∈ zT := zT_of (zt2 (List.mem_of_getElem? (i := 94) rfl)) rfl
theorem wd_335 : (Jvm.Cond.fieldLink "CodeVerifier$Walk" (84 : Nat) "CodeVerifier$Instruction" "before" "LCodeVerifier$Row;") ∈ zT := zT_of (zt2 (List.mem_of_getElem? (i := 95) rfl)) rfl
theorem wd_336 : (Jvm.Cond.fieldLink "CodeVerifier" (120 : Nat) "CodeVerifier$Instruction" "before" "LCodeVerifier$Row;") ∈ zT := zT_of (zt2 (List.mem_of_getElem? (i := 96) rfl)) rfl
theorem wd_337 : (Jvm.Cond.fieldLink "CodeVerifier$Walk" (67 : Nat) "CodeVerifier$Instruction" "isReached" "Z") ∈ zT := zT_of (zt2 (List.mem_of_getElem? (i := 97) rfl)) rfl
theorem wd_338 : (Jvm.Cond.fieldLink "CodeVerifier" (115 : Nat) "CodeVerifier$Instruction" "isReached" "Z") ∈ zT := zT_of (zt2 (List.mem_of_getElem? (i := 98) rfl)) rfl
theorem wd_339 : (Jvm.Cond.fieldLink "CodeVerifier$Walk" (72 : Nat) "CodeVerifier$Instruction" "isMarked" "Z") ∈ zT := zT_of (zt2 (List.mem_of_getElem? (i := 99) rfl)) rfl
theorem wd_340 : (Jvm.Cond.laysFinal "CodeVerifier$Instruction" "CodeVerifier$Instruction" "op" "I") ∈ zT := zT_of (zt2 (List.mem_of_getElem? (i := 100) rfl)) rfl
theorem wd_342 : (Jvm.Cond.laysFinal "CodeVerifier$Instruction" "CodeVerifier$Instruction" "x" "I") ∈ zT := zT_of (zt2 (List.mem_of_getElem? (i := 102) rfl)) rfl
theorem wd_344 : (Jvm.Cond.laysFinal "CodeVerifier$Instruction" "CodeVerifier$Instruction" "y" "I") ∈ zT := zT_of (zt2 (List.mem_of_getElem? (i := 104) rfl)) rfl
theorem wd_346 : (Jvm.Cond.laysFinal "CodeVerifier$Instruction" "CodeVerifier$Instruction" "before" "LCodeVerifier$Row;") ∈ zT := zT_of (zt2 (List.mem_of_getElem? (i := 106) rfl)) rfl
theorem wd_348 : (Jvm.Cond.lays "CodeVerifier$Instruction" "CodeVerifier$Instruction" "isReached" "Z") ∈ zT := zT_of (zt2 (List.mem_of_getElem? (i := 108) rfl)) rfl
theorem wd_350 : (Jvm.Cond.lays "CodeVerifier$Instruction" "CodeVerifier$Instruction" "isMarked" "Z") ∈ zT := zT_of (zt2 (List.mem_of_getElem? (i := 110) rfl)) rfl
theorem wd_353 : (Jvm.Cond.methodLink "CodeVerifierLaw" (41 : Nat) ({ cls := "CodeVerifier", name := "handler", desc := "(IIIII)I" } : Jvm.MethodName)) ∈ zT := zT_of (zt2 (List.mem_of_getElem? (i := 113) rfl)) rfl
theorem wd_354 : (Jvm.Cond.instanceMethod ({ cls := "CodeVerifier", name := "handler", desc := "(IIIII)I" } : Jvm.MethodName)) ∈ zT := zT_of (zt2 (List.mem_of_getElem? (i := 114) rfl)) rfl
theorem wd_355 : (Jvm.Cond.selects "CodeVerifier" ({ cls := "CodeVerifier", name := "handler", desc := "(IIIII)I" } : Jvm.MethodName) ({ cls := "CodeVerifier", name := "handler", desc := "(IIIII)I" } : Jvm.MethodName)) ∈ zT := zT_of (zt2 (List.mem_of_getElem? (i := 115) rfl)) rfl
theorem wd_356 : (Jvm.Cond.code ({ cls := "CodeVerifier", name := "handler", desc := "(IIIII)I" } : Jvm.MethodName) prog_1_method_8_code (7 : Nat) (Option.some Jvm.ClassFile.FieldType.int)) ∈ zT := zT_of (zt2 (List.mem_of_getElem? (i := 116) rfl)) rfl
theorem wd_357 : (Jvm.Cond.methodLink "CodeVerifier" (97 : Nat) ({ cls := "CodeVerifier", name := "isPlace", desc := "(I)Z" } : Jvm.MethodName)) ∈ zT := zT_of (zt2 (List.mem_of_getElem? (i := 117) rfl)) rfl
theorem wd_358 : (Jvm.Cond.methodLink "CodeVerifier" (100 : Nat) ({ cls := "CodeVerifier$Method", name := "addHandler", desc := "(IIII)I" } : Jvm.MethodName)) ∈ zT := zT_of (zt2 (List.mem_of_getElem? (i := 118) rfl)) rfl
theorem wd_359 : (Jvm.Cond.instanceMethod ({ cls := "CodeVerifier$Method", name := "addHandler", desc := "(IIII)I" } : Jvm.MethodName)) ∈ zT := zT_of (zt2 (List.mem_of_getElem? (i := 119) rfl)) rfl
theorem wd_360 : (Jvm.Cond.selects "CodeVerifier$Method" ({ cls := "CodeVerifier$Method", name := "addHandler", desc := "(IIII)I" } : Jvm.MethodName) ({ cls := "CodeVerifier$Method", name := "addHandler", desc := "(IIII)I" } : Jvm.MethodName)) ∈ zT := zT_of (zt2 (List.mem_of_getElem? (i := 120) rfl)) rfl
theorem wd_361 : (Jvm.Cond.code ({ cls := "CodeVerifier$Method", name := "addHandler", desc := "(IIII)I" } : Jvm.MethodName) prog_5_method_8_code (5 : Nat) (Option.some Jvm.ClassFile.FieldType.int)) ∈ zT := zT_of (zt2 (List.mem_of_getElem? (i := 121) rfl)) rfl
theorem wd_362 : (Jvm.Cond.instantiable "CodeVerifier$Handler" (4 : Nat)) ∈ zT := zT_of (zt2 (List.mem_of_getElem? (i := 122) rfl)) rfl
theorem wd_363 : (Jvm.Cond.methodLink "CodeVerifier$Method" (70 : Nat) ({ cls := "CodeVerifier$Handler", name := "<init>", desc := "(IIII)V" } : Jvm.MethodName)) ∈ zT := zT_of (zt2 (List.mem_of_getElem? (i := 123) rfl)) rfl
theorem wd_364 : (Jvm.Cond.instanceMethod ({ cls := "CodeVerifier$Handler", name := "<init>", desc := "(IIII)V" } : Jvm.MethodName)) ∈ zT := zT_of (zt2 (List.mem_of_getElem? (i := 124) rfl)) rfl
theorem wd_365 : (Jvm.Cond.code ({ cls := "CodeVerifier$Handler", name := "<init>", desc := "(IIII)V" } : Jvm.MethodName) prog_2_method_1_code (5 : Nat) (Option.none : Option Jvm.ClassFile.FieldType)) ∈ zT := zT_of (zt2 (List.mem_of_getElem? (i := 125) rfl)) rfl
theorem wd_366 : (Jvm.Cond.methodLink "CodeVerifier$Handler" (1 : Nat) ({ cls := "java/lang/Object", name := "<init>", desc := "()V" } : Jvm.MethodName)) ∈ zT := zT_of (zt2 (List.mem_of_getElem? (i := 126) rfl)) rfl
theorem wd_367 : (Jvm.Cond.fieldLink "CodeVerifier$Handler" (7 : Nat) "CodeVerifier$Handler" "from" "I") ∈ zT := zT_of (zt2 (List.mem_of_getElem? (i := 127) rfl)) rfl
theorem wd_368 : (Jvm.Cond.fieldLink "CodeVerifier$Handler" (13 : Nat) "CodeVerifier$Handler" "to" "I") ∈ zT := zT_of (zt2 (List.mem_of_getElem? (i := 128) rfl)) rfl
theorem wd_369 : (Jvm.Cond.fieldLink "CodeVerifier$Handler" (16 : Nat) "CodeVerifier$Handler" "kind" "I") ∈ zT := zT_of (zt2 (List.mem_of_getElem? (i := 129) rfl)) rfl
theorem wd_370 : (Jvm.Cond.fieldLink "CodeVerifier$Walk" (121 : Nat) "CodeVerifier$Handler" "kind" "I") ∈ zT := zT_of (zt2 (List.mem_of_getElem? (i := 130) rfl)) rfl
theorem wd_371 : (Jvm.Cond.fieldLink "CodeVerifier$Handler" (19 : Nat) "CodeVerifier$Handler" "place" "I") ∈ zT := zT_of (zt2 (List.mem_of_getElem? (i := 131) rfl)) rfl
theorem wd_372 : (Jvm.Cond.fieldLink "CodeVerifier$Walk" (127 : Nat) "CodeVerifier$Handler" "place" "I") ∈ zT := zT_of (zt2 (List.mem_of_getElem? (i := 132) rfl)) rfl
theorem wd_373 : (Jvm.Cond.laysFinal "CodeVerifier$Handler" "CodeVerifier$Handler" "from" "I") ∈ zT := zT_of (zt2 (List.mem_of_getElem? (i := 133) rfl)) rfl
theorem wd_375 : (Jvm.Cond.laysFinal "CodeVerifier$Handler" "CodeVerifier$Handler" "to" "I") ∈ zT := zT_of (zt2 (List.mem_of_getElem? (i := 135) rfl)) rfl
theorem wd_377 : (Jvm.Cond.laysFinal "CodeVerifier$Handler" "CodeVerifier$Handler" "kind" "I") ∈ zT := zT_of (zt2 (List.mem_of_getElem? (i := 137) rfl)) rfl
theorem wd_379 : (Jvm.Cond.laysFinal "CodeVerifier$Handler" "CodeVerifier$Handler" "place" "I") ∈ zT := zT_of (zt2 (List.mem_of_getElem? (i := 139) rfl)) rfl
theorem wd_382 : (Jvm.Cond.methodLink "CodeVerifierLaw" (46 : Nat) ({ cls := "CodeVerifier", name := "verify", desc := "(I)I" } : Jvm.MethodName)) ∈ zT := zT_of (zt2 (List.mem_of_getElem? (i := 142) rfl)) rfl
theorem wd_383 : (Jvm.Cond.instanceMethod ({ cls := "CodeVerifier", name := "verify", desc := "(I)I" } : Jvm.MethodName)) ∈ zT := zT_of (zt2 (List.mem_of_getElem? (i := 143) rfl)) rfl
theorem wd_384 : (Jvm.Cond.selects "CodeVerifier" ({ cls := "CodeVerifier", name := "verify", desc := "(I)I" } : Jvm.MethodName) ({ cls := "CodeVerifier", name := "verify", desc := "(I)I" } : Jvm.MethodName)) ∈ zT := zT_of (zt2 (List.mem_of_getElem? (i := 144) rfl)) rfl
theorem wd_385 : (Jvm.Cond.code ({ cls := "CodeVerifier", name := "verify", desc := "(I)I" } : Jvm.MethodName) prog_1_method_9_code (4 : Nat) (Option.some Jvm.ClassFile.FieldType.int)) ∈ zT := zT_of (zt2 (List.mem_of_getElem? (i := 145) rfl)) rfl
theorem wd_386 : (Jvm.Cond.methodLink "CodeVerifier" (104 : Nat) ({ cls := "CodeVerifier$Walk", name := "goOver", desc := "(LCodeVerifier$Method;)I" } : Jvm.MethodName)) ∈ zT := zT_of (zt2 (List.mem_of_getElem? (i := 146) rfl)) rfl
theorem wd_387 : (Jvm.Cond.instanceMethod ({ cls := "CodeVerifier$Walk", name := "goOver", desc := "(LCodeVerifier$Method;)I" } : Jvm.MethodName)) ∈ zT := zT_of (zt2 (List.mem_of_getElem? (i := 147) rfl)) rfl
theorem wd_388 : (Jvm.Cond.selects "CodeVerifier$Walk" ({ cls := "CodeVerifier$Walk", name := "goOver", desc := "(LCodeVerifier$Method;)I" } : Jvm.MethodName) ({ cls := "CodeVerifier$Walk", name := "goOver", desc := "(LCodeVerifier$Method;)I" } : Jvm.MethodName)) ∈ zT := zT_of (zt2 (List.mem_of_getElem? (i := 148) rfl)) rfl
theorem wd_389 : (Jvm.Cond.code ({ cls := "CodeVerifier$Walk", name := "goOver", desc := "(LCodeVerifier$Method;)I" } : Jvm.MethodName) prog_9_method_2_code (4 : Nat) (Option.some Jvm.ClassFile.FieldType.int)) ∈ zT := zT_of (zt2 (List.mem_of_getElem? (i := 149) rfl)) rfl
theorem wd_390 : (Jvm.Cond.methodLink "CodeVerifier$Walk" (31 : Nat) ({ cls := "CodeVerifier$Walk", name := "begin", desc := "(LCodeVerifier$Method;)V" } : Jvm.MethodName)) ∈ zT := zT_of (zt2 (List.mem_of_getElem? (i := 150) rfl)) rfl
theorem wd_392 : (Jvm.Cond.instanceMethod ({ cls := "CodeVerifier$Walk", name := "begin", desc := "(LCodeVerifier$Method;)V" } : Jvm.MethodName)) ∈ zT := zT_of (zt2 (List.mem_of_getElem? (i := 152) rfl)) rfl
theorem wd_393 : (Jvm.Cond.code ({ cls := "CodeVerifier$Walk", name := "begin", desc := "(LCodeVerifier$Method;)V" } : Jvm.MethodName) prog_9_method_3_code (4 : Nat) (Option.none : Option Jvm.ClassFile.FieldType)) ∈ zT := zT_of (zt2 (List.mem_of_getElem? (i := 153) rfl)) rfl
theorem wd_394 : (Jvm.Cond.methodLink "CodeVerifier$Walk" (63 : Nat) ({ cls := "CodeVerifier$Method", name := "instructionAt", desc := "(I)LCodeVerifier$Instruction;" } : Jvm.MethodName)) ∈ zT := zT_of (zt2 (List.mem_of_getElem? (i := 154) rfl)) rfl
theorem wd_395 : (Jvm.Cond.instanceMethod ({ cls := "CodeVerifier$Method", name := "instructionAt", desc := "(I)LCodeVerifier$Instruction;" } : Jvm.MethodName)) ∈ zT := zT_of (zt2 (List.mem_of_getElem? (i := 155) rfl)) rfl
theorem wd_396 : (Jvm.Cond.selects "CodeVerifier$Method" ({ cls := "CodeVerifier$Method", name := "instructionAt", desc := "(I)LCodeVerifier$Instruction;" } : Jvm.MethodName) ({ cls := "CodeVerifier$Method", name := "instructionAt", desc := "(I)LCodeVerifier$Instruction;" } : Jvm.MethodName)) ∈ zT := zT_of (zt2 (List.mem_of_getElem? (i := 156) rfl)) rfl
theorem wd_397 : (Jvm.Cond.code ({ cls := "CodeVerifier$Method", name := "instructionAt", desc := "(I)LCodeVerifier$Instruction;" } : Jvm.MethodName) prog_5_method_7_code (2 : Nat) (Option.some (Jvm.ClassFile.FieldType.object "CodeVerifier$Instruction"))) ∈ zT := zT_of (zt2 (List.mem_of_getElem? (i := 157) rfl)) rfl
theorem wd_398 : (Jvm.Cond.methodLink "CodeVerifier$Walk" (75 : Nat) ({ cls := "CodeVerifier$Row", name := "begin", desc := "(LCodeVerifier$Method;)V" } : Jvm.MethodName)) ∈ zT := zT_of (zt2 (List.mem_of_getElem? (i := 158) rfl)) rfl
theorem wd_399 : (Jvm.Cond.instanceMethod ({ cls := "CodeVerifier$Row", name := "begin", desc := "(LCodeVerifier$Method;)V" } : Jvm.MethodName)) ∈ zT := zT_of (zt2 (List.mem_of_getElem? (i := 159) rfl)) rfl
theorem wd_400 : (Jvm.Cond.selects "CodeVerifier$Row" ({ cls := "CodeVerifier$Row", name := "begin", desc := "(LCodeVerifier$Method;)V" } : Jvm.MethodName) ({ cls := "CodeVerifier$Row", name := "begin", desc := "(LCodeVerifier$Method;)V" } : Jvm.MethodName)) ∈ zT := zT_of (zt2 (List.mem_of_getElem? (i := 160) rfl)) rfl
theorem wd_401 : (Jvm.Cond.code ({ cls := "CodeVerifier$Row", name := "begin", desc := "(LCodeVerifier$Method;)V" } : Jvm.MethodName) prog_6_method_2_code (3 : Nat) (Option.none : Option Jvm.ClassFile.FieldType)) ∈ zT := zT_of (zt2 (List.mem_of_getElem? (i := 161) rfl)) rfl
theorem wd_402 : (Jvm.Cond.methodLink "CodeVerifier$Row" (34 : Nat) ({ cls := "CodeVerifier$Method", name := "parameterAt", desc := "(I)I" } : Jvm.MethodName)) ∈ zT := zT_of (zt2 (List.mem_of_getElem? (i := 162) rfl)) rfl
theorem wd_403 : (Jvm.Cond.methodLink "CodeVerifier$Walk" (76 : Nat) ({ cls := "CodeVerifier$Walk", name := "come", desc := "(LCodeVerifier$Method;II)V" } : Jvm.MethodName)) ∈ zT := zT_of (zt2 (List.mem_of_getElem? (i := 163) rfl)) rfl
theorem wd_405 : (Jvm.Cond.instanceMethod ({ cls := "CodeVerifier$Walk", name := "come", desc := "(LCodeVerifier$Method;II)V" } : Jvm.MethodName)) ∈ zT := zT_of (zt2 (List.mem_of_getElem? (i := 165) rfl)) rfl
theorem wd_406 : (Jvm.Cond.code ({ cls := "CodeVerifier$Walk", name := "come", desc := "(LCodeVerifier$Method;II)V" } : Jvm.MethodName) prog_9_method_7_code (6 : Nat) (Option.none : Option Jvm.ClassFile.FieldType)) ∈ zT := zT_of (zt2 (List.mem_of_getElem? (i := 166) rfl)) rfl
theorem wd_407 : (Jvm.Cond.methodLink "CodeVerifier$Walk" (87 : Nat) ({ cls := "CodeVerifier$Row", name := "copy", desc := "(LCodeVerifier$Row;)V" } : Jvm.MethodName)) ∈ zT := zT_of (zt2 (List.mem_of_getElem? (i := 167) rfl)) rfl
theorem wd_408 : (Jvm.Cond.instanceMethod ({ cls := "CodeVerifier$Row", name := "copy", desc := "(LCodeVerifier$Row;)V" } : Jvm.MethodName)) ∈ zT := zT_of (zt2 (List.mem_of_getElem? (i := 168) rfl)) rfl
theorem wd_409 : (Jvm.Cond.selects "CodeVerifier$Row" ({ cls := "CodeVerifier$Row", name := "copy", desc := "(LCodeVerifier$Row;)V" } : Jvm.MethodName) ({ cls := "CodeVerifier$Row", name := "copy", desc := "(LCodeVerifier$Row;)V" } : Jvm.MethodName)) ∈ zT := zT_of (zt2 (List.mem_of_getElem? (i := 169) rfl)) rfl
theorem wd_410 : (Jvm.Cond.code ({ cls := "CodeVerifier$Row", name := "copy", desc := "(LCodeVerifier$Row;)V" } : Jvm.MethodName) prog_6_method_3_code (3 : Nat) (Option.none : Option Jvm.ClassFile.FieldType)) ∈ zT := zT_of (zt2 (List.mem_of_getElem? (i := 170) rfl)) rfl
theorem wd_411 : (Jvm.Cond.methodLink "CodeVerifier$Walk" (130 : Nat) ({ cls := "CodeVerifier$Walk", name := "mark", desc := "(LCodeVerifier$Instruction;I)V" } : Jvm.MethodName)) ∈ zT := zT_of (zt2 (List.mem_of_getElem? (i := 171) rfl)) rfl
theorem wd_413 : (Jvm.Cond.instanceMethod ({ cls := "CodeVerifier$Walk", name := "mark", desc := "(LCodeVerifier$Instruction;I)V" } : Jvm.MethodName)) ∈ zT := zT_of (zt2 (List.mem_of_getElem? (i := 173) rfl)) rfl
theorem wd_414 : (Jvm.Cond.code ({ cls := "CodeVerifier$Walk", name := "mark", desc := "(LCodeVerifier$Instruction;I)V" } : Jvm.MethodName) prog_9_method_8_code (3 : Nat) (Option.none : Option Jvm.ClassFile.FieldType)) ∈ zT := zT_of (zt2 (List.mem_of_getElem? (i := 174) rfl)) rfl
theorem wd_415 : (Jvm.Cond.methodLink "CodeVerifier$Walk" (138 : Nat) ({ cls := "java/lang/Math", name := "min", desc := "(II)I" } : Jvm.MethodName)) ∈ zT := zT_of (zt2 (List.mem_of_getElem? (i := 175) rfl)) rfl
theorem wd_416 : (Jvm.Cond.static ({ cls := "java/lang/Math", name := "min", desc := "(II)I" } : Jvm.MethodName)) ∈ zT := zT_of (zt2 (List.mem_of_getElem? (i := 176) rfl)) rfl
theorem wd_417 : (Jvm.Cond.code ({ cls := "java/lang/Math", name := "min", desc := "(II)I" } : Jvm.MethodName) prog_12_method_69_code (2 : Nat) (Option.some Jvm.ClassFile.FieldType.int)) ∈ zT := zT_of (zt2 (List.mem_of_getElem? (i := 177) rfl)) rfl
theorem wd_418 : (Jvm.Cond.methodLink "CodeVerifier$Walk" (134 : Nat) ({ cls := "CodeVerifier$Row", name := "meet", desc := "(LCodeVerifier$Row;LCodeVerifier$Told;)I" } : Jvm.MethodName)) ∈ zT := zT_of (zt2 (List.mem_of_getElem? (i := 178) rfl)) rfl
theorem wd_419 : (Jvm.Cond.instanceMethod ({ cls := "CodeVerifier$Row", name := "meet", desc := "(LCodeVerifier$Row;LCodeVerifier$Told;)I" } : Jvm.MethodName)) ∈ zT := zT_of (zt2 (List.mem_of_getElem? (i := 179) rfl)) rfl
theorem wd_420 : (Jvm.Cond.selects "CodeVerifier$Row" ({ cls := "CodeVerifier$Row", name := "meet", desc := "(LCodeVerifier$Row;LCodeVerifier$Told;)I" } : Jvm.MethodName) ({ cls := "CodeVerifier$Row", name := "meet", desc := "(LCodeVerifier$Row;LCodeVerifier$Told;)I" } : Jvm.MethodName)) ∈ zT := zT_of (zt2 (List.mem_of_getElem? (i := 180) rfl)) rfl
theorem wd_421 : (Jvm.Cond.code ({ cls := "CodeVerifier$Row", name := "meet", desc := "(LCodeVerifier$Row;LCodeVerifier$Told;)I" } : Jvm.MethodName) prog_6_method_8_code (6 : Nat) (Option.some Jvm.ClassFile.FieldType.int)) ∈ zT := zT_of (zt2 (List.mem_of_getElem? (i := 181) rfl)) rfl
theorem wd_422 : (Jvm.Cond.methodLink "CodeVerifier$Row" (38 : Nat) ({ cls := "CodeVerifier$Told", name := "meeting", desc := "(II)I" } : Jvm.MethodName)) ∈ zT := zT_of (zt2 (List.mem_of_getElem? (i := 182) rfl)) rfl
theorem wd_423 : (Jvm.Cond.instanceMethod ({ cls := "CodeVerifier$Told", name := "meeting", desc := "(II)I" } : Jvm.MethodName)) ∈ zT := zT_of (zt2 (List.mem_of_getElem? (i := 183) rfl)) rfl
theorem wd_424 : (Jvm.Cond.selects "CodeVerifier$Told" ({ cls := "CodeVerifier$Told", name := "meeting", desc := "(II)I" } : Jvm.MethodName) ({ cls := "CodeVerifier$Told", name := "meeting", desc := "(II)I" } : Jvm.MethodName)) ∈ zT := zT_of (zt2 (List.mem_of_getElem? (i := 184) rfl)) rfl
theorem wd_425 : (Jvm.Cond.code ({ cls := "CodeVerifier$Told", name := "meeting", desc := "(II)I" } : Jvm.MethodName) prog_8_method_11_code (3 : Nat) (Option.some Jvm.ClassFile.FieldType.int)) ∈ zT := zT_of (zt2 (List.mem_of_getElem? (i := 185) rfl)) rfl
theorem wd_426 : (Jvm.Cond.methodLinkNest "CodeVerifier$Told" (81 : Nat) ({ cls := "CodeVerifier", name := "isReference", desc := "(I)Z" } : Jvm.MethodName) "CodeVerifier") ∈ tables_1 := zt2 (List.mem_of_getElem? (i := 186) rfl)
theorem wd_427 : (Jvm.Cond.static ({ cls := "CodeVerifier", name := "isReference", desc := "(I)Z" } : Jvm.MethodName)) ∈ zT := zT_of (zt2 (List.mem_of_getElem? (i := 187) rfl)) rfl
theorem wd_428 : (Jvm.Cond.code ({ cls := "CodeVerifier", name := "isReference", desc := "(I)Z" } : Jvm.MethodName) prog_1_method_16_code (1 : Nat) (Option.some Jvm.ClassFile.FieldType.boolean)) ∈ zT := zT_of (zt2 (List.mem_of_getElem? (i := 188) rfl)) rfl
theorem wd_429 : (Jvm.Cond.methodLink "CodeVerifier$Told" (90 : Nat) ({ cls := "CodeVerifier$Told", name := "lowestAboveBoth", desc := "(LCodeVerifier$Kind;LCodeVerifier$Kind;)I" } : Jvm.MethodName)) ∈ zT := zT_of (zt2 (List.mem_of_getElem? (i := 189) rfl)) rfl
theorem wd_430 : (Jvm.Cond.static ({ cls := "CodeVerifier$Told", name := "lowestAboveBoth", desc := "(LCodeVerifier$Kind;LCodeVerifier$Kind;)I" } : Jvm.MethodName)) ∈ zT := zT_of (zt2 (List.mem_of_getElem? (i := 190) rfl)) rfl
theorem wd_431 : (Jvm.Cond.code ({ cls := "CodeVerifier$Told", name := "lowestAboveBoth", desc := "(LCodeVerifier$Kind;LCodeVerifier$Kind;)I" } : Jvm.MethodName) prog_8_method_12_code (4 : Nat) (Option.some Jvm.ClassFile.FieldType.int)) ∈ zT := zT_of (zt2 (List.mem_of_getElem? (i := 191) rfl)) rfl
theorem wd_432 : (Jvm.Cond.constant "CodeVerifier$Walk" (35 : Nat) (1000000 : Int32)) ∈ zT := zT_of (zt2 (List.mem_of_getElem? (i := 192) rfl)) rfl
theorem wd_433 : (Jvm.Cond.methodLink "CodeVerifier$Walk" (40 : Nat) ({ cls := "CodeVerifier$Walk", name := "leastMarked", desc := "(LCodeVerifier$Method;)I" } : Jvm.MethodName)) ∈ zT := zT_of (zt2 (List.mem_of_getElem? (i := 193) rfl)) rfl
theorem wd_435 : (Jvm.Cond.instanceMethod ({ cls := "CodeVerifier$Walk", name := "leastMarked", desc := "(LCodeVerifier$Method;)I" } : Jvm.MethodName)) ∈ zT := zT_of (zt2 (List.mem_of_getElem? (i := 195) rfl)) rfl
theorem wd_436 : (Jvm.Cond.code ({ cls := "CodeVerifier$Walk", name := "leastMarked", desc := "(LCodeVerifier$Method;)I" } : Jvm.MethodName) prog_9_method_4_code (4 : Nat) (Option.some Jvm.ClassFile.FieldType.int)) ∈ zT := zT_of (zt2 (List.mem_of_getElem? (i := 196) rfl)) rfl
theorem wd_437 : (Jvm.Cond.methodLink "CodeVerifier$Walk" (44 : Nat) ({ cls := "CodeVerifier$Walk", name := "lookAt", desc := "(LCodeVerifier$Method;I)V" } : Jvm.MethodName)) ∈ zT := zT_of (zt2 (List.mem_of_getElem? (i := 197) rfl)) rfl
theorem wd_439 : (Jvm.Cond.instanceMethod ({ cls := "CodeVerifier$Walk", name := "lookAt", desc := "(LCodeVerifier$Method;I)V" } : Jvm.MethodName)) ∈ zT := zT_of (zt2 (List.mem_of_getElem? (i := 199) rfl)) rfl
theorem wd_440 : (Jvm.Cond.code ({ cls := "CodeVerifier$Walk", name := "lookAt", desc := "(LCodeVerifier$Method;I)V" } : Jvm.MethodName) prog_9_method_5_code (4 : Nat) (Option.none : Option Jvm.ClassFile.FieldType)) ∈ zT := zT_of (zt2 (List.mem_of_getElem? (i := 200) rfl)) rfl
theorem wd_441 : (Jvm.Cond.methodLink "CodeVerifier$Walk" (80 : Nat) ({ cls := "CodeVerifier$Walk", name := "comeToHandlers", desc := "(LCodeVerifier$Method;ILCodeVerifier$Instruction;)V" } : Jvm.MethodName)) ∈ zT := zT_of (zt2 (List.mem_of_getElem? (i := 201) rfl)) rfl
theorem wd_443 : (Jvm.Cond.instanceMethod ({ cls := "CodeVerifier$Walk", name := "comeToHandlers", desc := "(LCodeVerifier$Method;ILCodeVerifier$Instruction;)V" } : Jvm.MethodName)) ∈ zT := zT_of (zt2 (List.mem_of_getElem? (i := 203) rfl)) rfl
theorem wd_444 : (Jvm.Cond.code ({ cls := "CodeVerifier$Walk", name := "comeToHandlers", desc := "(LCodeVerifier$Method;ILCodeVerifier$Instruction;)V" } : Jvm.MethodName) prog_9_method_6_code (6 : Nat) (Option.none : Option Jvm.ClassFile.FieldType)) ∈ zT := zT_of (zt2 (List.mem_of_getElem? (i := 204) rfl)) rfl
theorem wd_445 : (Jvm.Cond.methodLink "CodeVerifier$Walk" (108 : Nat) ({ cls := "CodeVerifier$Method", name := "handlerAt", desc := "(I)LCodeVerifier$Handler;" } : Jvm.MethodName)) ∈ zT := zT_of (zt2 (List.mem_of_getElem? (i := 205) rfl)) rfl
theorem wd_446 : (Jvm.Cond.instanceMethod ({ cls := "CodeVerifier$Method", name := "handlerAt", desc := "(I)LCodeVerifier$Handler;" } : Jvm.MethodName)) ∈ zT := zT_of (zt2 (List.mem_of_getElem? (i := 206) rfl)) rfl
theorem wd_447 : (Jvm.Cond.selects "CodeVerifier$Method" ({ cls := "CodeVerifier$Method", name := "handlerAt", desc := "(I)LCodeVerifier$Handler;" } : Jvm.MethodName) ({ cls := "CodeVerifier$Method", name := "handlerAt", desc := "(I)LCodeVerifier$Handler;" } : Jvm.MethodName)) ∈ zT := zT_of (zt2 (List.mem_of_getElem? (i := 207) rfl)) rfl
theorem wd_448 : (Jvm.Cond.code ({ cls := "CodeVerifier$Method", name := "handlerAt", desc := "(I)LCodeVerifier$Handler;" } : Jvm.MethodName) prog_5_method_9_code (2 : Nat) (Option.some (Jvm.ClassFile.FieldType.object "CodeVerifier$Handler"))) ∈ zT := zT_of (zt2 (List.mem_of_getElem? (i := 208) rfl)) rfl
theorem wd_449 : (Jvm.Cond.methodLink "CodeVerifier$Walk" (112 : Nat) ({ cls := "CodeVerifier$Handler", name := "covers", desc := "(I)Z" } : Jvm.MethodName)) ∈ zT := zT_of (zt2 (List.mem_of_getElem? (i := 209) rfl)) rfl
theorem wd_450 : (Jvm.Cond.instanceMethod ({ cls := "CodeVerifier$Handler", name := "covers", desc := "(I)Z" } : Jvm.MethodName)) ∈ zT := zT_of (zt2 (List.mem_of_getElem? (i := 210) rfl)) rfl
theorem wd_451 : (Jvm.Cond.selects "CodeVerifier$Handler" ({ cls := "CodeVerifier$Handler", name := "covers", desc := "(I)Z" } : Jvm.MethodName) ({ cls := "CodeVerifier$Handler", name := "covers", desc := "(I)Z" } : Jvm.MethodName)) ∈ zT := zT_of (zt2 (List.mem_of_getElem? (i := 211) rfl)) rfl
theorem wd_452 : (Jvm.Cond.code ({ cls := "CodeVerifier$Handler", name := "covers", desc := "(I)Z" } : Jvm.MethodName) prog_2_method_2_code (2 : Nat) (Option.some Jvm.ClassFile.FieldType.boolean)) ∈ zT := zT_of (zt2 (List.mem_of_getElem? (i := 212) rfl)) rfl
theorem wd_453 : (Jvm.Cond.methodLink "CodeVerifier$Walk" (124 : Nat) ({ cls := "CodeVerifier$Row", name := "put", desc := "(I)Z" } : Jvm.MethodName)) ∈ zT := zT_of (zt2 (List.mem_of_getElem? (i := 213) rfl)) rfl
theorem wd_454 : (Jvm.Cond.instanceMethod ({ cls := "CodeVerifier$Row", name := "put", desc := "(I)Z" } : Jvm.MethodName)) ∈ zT := zT_of (zt2 (List.mem_of_getElem? (i := 214) rfl)) rfl
theorem wd_455 : (Jvm.Cond.selects "CodeVerifier$Row" ({ cls := "CodeVerifier$Row", name := "put", desc := "(I)Z" } : Jvm.MethodName) ({ cls := "CodeVerifier$Row", name := "put", desc := "(I)Z" } : Jvm.MethodName)) ∈ zT := zT_of (zt2 (List.mem_of_getElem? (i := 215) rfl)) rfl
theorem wd_456 : (Jvm.Cond.code ({ cls := "CodeVerifier$Row", name := "put", desc := "(I)Z" } : Jvm.MethodName) prog_6_method_7_code (3 : Nat) (Option.some Jvm.ClassFile.FieldType.boolean)) ∈ zT := zT_of (zt2 (List.mem_of_getElem? (i := 216) rfl)) rfl
theorem wd_457 : (Jvm.Cond.methodLink "CodeVerifier$Walk" (91 : Nat) ({ cls := "CodeVerifier$Step", name := "perform", desc := "(LCodeVerifier$Method;LCodeVerifier$Instruction;)Z" } : Jvm.MethodName)) ∈ zT := zT_of (zt2 (List.mem_of_getElem? (i := 217) rfl)) rfl
theorem wd_458 : (Jvm.Cond.instanceMethod ({ cls := "CodeVerifier$Step", name := "perform", desc := "(LCodeVerifier$Method;LCodeVerifier$Instruction;)Z" } : Jvm.MethodName)) ∈ zT := zT_of (zt2 (List.mem_of_getElem? (i := 218) rfl)) rfl
theorem wd_459 : (Jvm.Cond.selects "CodeVerifier$Step" ({ cls := "CodeVerifier$Step", name := "perform", desc := "(LCodeVerifier$Method;LCodeVerifier$Instruction;)Z" } : Jvm.MethodName) ({ cls := "CodeVerifier$Step", name := "perform", desc := "(LCodeVerifier$Method;LCodeVerifier$Instruction;)Z" } : Jvm.MethodName)) ∈ zT := zT_of (zt2 (List.mem_of_getElem? (i := 219) rfl)) rfl
theorem wd_460 : (Jvm.Cond.code ({ cls := "CodeVerifier$Step", name := "perform", desc := "(LCodeVerifier$Method;LCodeVerifier$Instruction;)Z" } : Jvm.MethodName) prog_7_method_2_code (3 : Nat) (Option.some Jvm.ClassFile.FieldType.boolean)) ∈ zT := zT_of (zt2 (List.mem_of_getElem? (i := 220) rfl)) rfl
theorem wd_461 : (Jvm.Cond.methodLink "CodeVerifier$Step" (29 : Nat) ({ cls := "CodeVerifier$Step", name := "move", desc := "(LCodeVerifier$Instruction;)V" } : Jvm.MethodName)) ∈ zT := zT_of (zt2 (List.mem_of_getElem? (i := 221) rfl)) rfl
theorem wd_463 : (Jvm.Cond.instanceMethod ({ cls := "CodeVerifier$Step", name := "move", desc := "(LCodeVerifier$Instruction;)V" } : Jvm.MethodName)) ∈ zT := zT_of (zt2 (List.mem_of_getElem? (i := 223) rfl)) rfl
theorem wd_464 : (Jvm.Cond.code ({ cls := "CodeVerifier$Step", name := "move", desc := "(LCodeVerifier$Instruction;)V" } : Jvm.MethodName) prog_7_method_3_code (2 : Nat) (Option.none : Option Jvm.ClassFile.FieldType)) ∈ zT := zT_of (zt2 (List.mem_of_getElem? (i := 224) rfl)) rfl
theorem wd_465 : (Jvm.Cond.methodLink "CodeVerifier$Step" (53 : Nat) ({ cls := "CodeVerifier$Step", name := "put", desc := "(I)V" } : Jvm.MethodName)) ∈ zT := zT_of (zt2 (List.mem_of_getElem? (i := 225) rfl)) rfl
theorem wd_467 : (Jvm.Cond.instanceMethod ({ cls := "CodeVerifier$Step", name := "put", desc := "(I)V" } : Jvm.MethodName)) ∈ zT := zT_of (zt2 (List.mem_of_getElem? (i := 227) rfl)) rfl
theorem wd_468 : (Jvm.Cond.code ({ cls := "CodeVerifier$Step", name := "put", desc := "(I)V" } : Jvm.MethodName) prog_7_method_14_code (2 : Nat) (Option.none : Option Jvm.ClassFile.FieldType)) ∈ zT := zT_of (zt2 (List.mem_of_getElem? (i := 228) rfl)) rfl
theorem wd_469 : (Jvm.Cond.methodLink "CodeVerifier$Step" (140 : Nat) ({ cls := "CodeVerifier$Row", name := "put", desc := "(I)Z" } : Jvm.MethodName)) ∈ zT := zT_of (zt2 (List.mem_of_getElem? (i := 229) rfl)) rfl
theorem wd_470 : (Jvm.Cond.methodLink "CodeVerifier$Step" (82 : Nat) ({ cls := "CodeVerifier$Step", name := "need", desc := "(Z)V" } : Jvm.MethodName)) ∈ zT := zT_of (zt2 (List.mem_of_getElem? (i := 230) rfl)) rfl
theorem wd_472 : (Jvm.Cond.instanceMethod ({ cls := "CodeVerifier$Step", name := "need", desc := "(Z)V" } : Jvm.MethodName)) ∈ zT := zT_of (zt2 (List.mem_of_getElem? (i := 232) rfl)) rfl
theorem wd_473 : (Jvm.Cond.code ({ cls := "CodeVerifier$Step", name := "need", desc := "(Z)V" } : Jvm.MethodName) prog_7_method_13_code (2 : Nat) (Option.none : Option Jvm.ClassFile.FieldType)) ∈ zT := zT_of (zt2 (List.mem_of_getElem? (i := 233) rfl)) rfl
theorem wd_474 : (Jvm.Cond.methodLink "CodeVerifier$Step" (59 : Nat) ({ cls := "CodeVerifier$Step", name := "load", desc := "(I)V" } : Jvm.MethodName)) ∈ zT := zT_of (zt2 (List.mem_of_getElem? (i := 234) rfl)) rfl
theorem wd_476 : (Jvm.Cond.instanceMethod ({ cls := "CodeVerifier$Step", name := "load", desc := "(I)V" } : Jvm.MethodName)) ∈ zT := zT_of (zt2 (List.mem_of_getElem? (i := 236) rfl)) rfl
theorem wd_477 : (Jvm.Cond.code ({ cls := "CodeVerifier$Step", name := "load", desc := "(I)V" } : Jvm.MethodName) prog_7_method_4_code (3 : Nat) (Option.none : Option Jvm.ClassFile.FieldType)) ∈ zT := zT_of (zt2 (List.mem_of_getElem? (i := 237) rfl)) rfl
theorem wd_478 : (Jvm.Cond.methodLink "CodeVerifier$Step" (78 : Nat) ({ cls := "CodeVerifier$Row", name := "localAt", desc := "(I)I" } : Jvm.MethodName)) ∈ zT := zT_of (zt2 (List.mem_of_getElem? (i := 238) rfl)) rfl
theorem wd_479 : (Jvm.Cond.instanceMethod ({ cls := "CodeVerifier$Row", name := "localAt", desc := "(I)I" } : Jvm.MethodName)) ∈ zT := zT_of (zt2 (List.mem_of_getElem? (i := 239) rfl)) rfl
theorem wd_480 : (Jvm.Cond.selects "CodeVerifier$Row" ({ cls := "CodeVerifier$Row", name := "localAt", desc := "(I)I" } : Jvm.MethodName) ({ cls := "CodeVerifier$Row", name := "localAt", desc := "(I)I" } : Jvm.MethodName)) ∈ zT := zT_of (zt3 (List.mem_of_getElem? (i := 0) rfl)) rfl
theorem wd_481 : (Jvm.Cond.code ({ cls := "CodeVerifier$Row", name := "localAt", desc := "(I)I" } : Jvm.MethodName) prog_6_method_4_code (2 : Nat) (Option.some Jvm.ClassFile.FieldType.int)) ∈ zT := zT_of (zt3 (List.mem_of_getElem? (i := 1) rfl)) rfl
theorem wd_482 : (Jvm.Cond.methodLink "CodeVerifier$Step" (62 : Nat) ({ cls := "CodeVerifier$Step", name := "take", desc := "()I" } : Jvm.MethodName)) ∈ zT := zT_of (zt3 (List.mem_of_getElem? (i := 2) rfl)) rfl
theorem wd_484 : (Jvm.Cond.instanceMethod ({ cls := "CodeVerifier$Step", name := "take", desc := "()I" } : Jvm.MethodName)) ∈ zT := zT_of (zt3 (List.mem_of_getElem? (i := 4) rfl)) rfl
theorem wd_485 : (Jvm.Cond.code ({ cls := "CodeVerifier$Step", name := "take", desc := "()I" } : Jvm.MethodName) prog_7_method_15_code (2 : Nat) (Option.some Jvm.ClassFile.FieldType.int)) ∈ zT := zT_of (zt3 (List.mem_of_getElem? (i := 5) rfl)) rfl
theorem wd_486 : (Jvm.Cond.methodLink "CodeVerifier$Step" (145 : Nat) ({ cls := "CodeVerifier$Row", name := "placeAt", desc := "(I)I" } : Jvm.MethodName)) ∈ zT := zT_of (zt3 (List.mem_of_getElem? (i := 6) rfl)) rfl
theorem wd_487 : (Jvm.Cond.instanceMethod ({ cls := "CodeVerifier$Row", name := "placeAt", desc := "(I)I" } : Jvm.MethodName)) ∈ zT := zT_of (zt3 (List.mem_of_getElem? (i := 7) rfl)) rfl
theorem wd_488 : (Jvm.Cond.selects "CodeVerifier$Row" ({ cls := "CodeVerifier$Row", name := "placeAt", desc := "(I)I" } : Jvm.MethodName) ({ cls := "CodeVerifier$Row", name := "placeAt", desc := "(I)I" } : Jvm.MethodName)) ∈ zT := zT_of (zt3 (List.mem_of_getElem? (i := 8) rfl)) rfl
theorem wd_489 : (Jvm.Cond.code ({ cls := "CodeVerifier$Row", name := "placeAt", desc := "(I)I" } : Jvm.MethodName) prog_6_method_6_code (3 : Nat) (Option.some Jvm.ClassFile.FieldType.int)) ∈ zT := zT_of (zt3 (List.mem_of_getElem? (i := 9) rfl)) rfl
theorem wd_490 : (Jvm.Cond.methodLink "CodeVerifier$Step" (66 : Nat) ({ cls := "CodeVerifier$Row", name := "setLocal", desc := "(II)V" } : Jvm.MethodName)) ∈ zT := zT_of (zt3 (List.mem_of_getElem? (i := 10) rfl)) rfl
theorem wd_491 : (Jvm.Cond.instanceMethod ({ cls := "CodeVerifier$Row", name := "setLocal", desc := "(II)V" } : Jvm.MethodName)) ∈ zT := zT_of (zt3 (List.mem_of_getElem? (i := 11) rfl)) rfl
theorem wd_492 : (Jvm.Cond.selects "CodeVerifier$Row" ({ cls := "CodeVerifier$Row", name := "setLocal", desc := "(II)V" } : Jvm.MethodName) ({ cls := "CodeVerifier$Row", name := "setLocal", desc := "(II)V" } : Jvm.MethodName)) ∈ zT := zT_of (zt3 (List.mem_of_getElem? (i := 12) rfl)) rfl
theorem wd_493 : (Jvm.Cond.code ({ cls := "CodeVerifier$Row", name := "setLocal", desc := "(II)V" } : Jvm.MethodName) prog_6_method_5_code (3 : Nat) (Option.none : Option Jvm.ClassFile.FieldType)) ∈ zT := zT_of (zt3 (List.mem_of_getElem? (i := 13) rfl)) rfl
theorem wd_494 : (Jvm.Cond.methodLink "CodeVerifier$Step" (72 : Nat) ({ cls := "CodeVerifier$Step", name := "duplicate", desc := "()V" } : Jvm.MethodName)) ∈ zT := zT_of (zt3 (List.mem_of_getElem? (i := 14) rfl)) rfl
theorem wd_496 : (Jvm.Cond.instanceMethod ({ cls := "CodeVerifier$Step", name := "duplicate", desc := "()V" } : Jvm.MethodName)) ∈ zT := zT_of (zt3 (List.mem_of_getElem? (i := 16) rfl)) rfl
theorem wd_497 : (Jvm.Cond.code ({ cls := "CodeVerifier$Step", name := "duplicate", desc := "()V" } : Jvm.MethodName) prog_7_method_5_code (2 : Nat) (Option.none : Option Jvm.ClassFile.FieldType)) ∈ zT := zT_of (zt3 (List.mem_of_getElem? (i := 17) rfl)) rfl
theorem wd_498 : (Jvm.Cond.methodLink "CodeVerifier$Step" (75 : Nat) ({ cls := "CodeVerifier$Step", name := "swap", desc := "()V" } : Jvm.MethodName)) ∈ zT := zT_of (zt3 (List.mem_of_getElem? (i := 18) rfl)) rfl
theorem wd_500 : (Jvm.Cond.instanceMethod ({ cls := "CodeVerifier$Step", name := "swap", desc := "()V" } : Jvm.MethodName)) ∈ zT := zT_of (zt3 (List.mem_of_getElem? (i := 20) rfl)) rfl
theorem wd_501 : (Jvm.Cond.code ({ cls := "CodeVerifier$Step", name := "swap", desc := "()V" } : Jvm.MethodName) prog_7_method_6_code (3 : Nat) (Option.none : Option Jvm.ClassFile.FieldType)) ∈ zT := zT_of (zt3 (List.mem_of_getElem? (i := 21) rfl)) rfl
theorem wd_502 : (Jvm.Cond.methodLink "CodeVerifier$Step" (33 : Nat) ({ cls := "CodeVerifier$Step", name := "reckon", desc := "(I)V" } : Jvm.MethodName)) ∈ zT := zT_of (zt3 (List.mem_of_getElem? (i := 22) rfl)) rfl
theorem wd_504 : (Jvm.Cond.instanceMethod ({ cls := "CodeVerifier$Step", name := "reckon", desc := "(I)V" } : Jvm.MethodName)) ∈ zT := zT_of (zt3 (List.mem_of_getElem? (i := 24) rfl)) rfl
theorem wd_505 : (Jvm.Cond.code ({ cls := "CodeVerifier$Step", name := "reckon", desc := "(I)V" } : Jvm.MethodName) prog_7_method_7_code (2 : Nat) (Option.none : Option Jvm.ClassFile.FieldType)) ∈ zT := zT_of (zt3 (List.mem_of_getElem? (i := 25) rfl)) rfl
theorem wd_506 : (Jvm.Cond.methodLink "CodeVerifier$Step" (86 : Nat) ({ cls := "CodeVerifier$Step", name := "takeInt", desc := "()V" } : Jvm.MethodName)) ∈ zT := zT_of (zt3 (List.mem_of_getElem? (i := 26) rfl)) rfl
theorem wd_508 : (Jvm.Cond.instanceMethod ({ cls := "CodeVerifier$Step", name := "takeInt", desc := "()V" } : Jvm.MethodName)) ∈ zT := zT_of (zt3 (List.mem_of_getElem? (i := 28) rfl)) rfl
theorem wd_509 : (Jvm.Cond.code ({ cls := "CodeVerifier$Step", name := "takeInt", desc := "()V" } : Jvm.MethodName) prog_7_method_16_code (1 : Nat) (Option.none : Option Jvm.ClassFile.FieldType)) ∈ zT := zT_of (zt3 (List.mem_of_getElem? (i := 29) rfl)) rfl
theorem wd_510 : (Jvm.Cond.methodLink "CodeVerifier$Step" (37 : Nat) ({ cls := "CodeVerifier$Step", name := "branch", desc := "(I)V" } : Jvm.MethodName)) ∈ zT := zT_of (zt3 (List.mem_of_getElem? (i := 30) rfl)) rfl
theorem wd_512 : (Jvm.Cond.instanceMethod ({ cls := "CodeVerifier$Step", name := "branch", desc := "(I)V" } : Jvm.MethodName)) ∈ zT := zT_of (zt3 (List.mem_of_getElem? (i := 32) rfl)) rfl
theorem wd_513 : (Jvm.Cond.code ({ cls := "CodeVerifier$Step", name := "branch", desc := "(I)V" } : Jvm.MethodName) prog_7_method_8_code (2 : Nat) (Option.none : Option Jvm.ClassFile.FieldType)) ∈ zT := zT_of (zt3 (List.mem_of_getElem? (i := 33) rfl)) rfl
theorem wd_514 : (Jvm.Cond.methodLink "CodeVerifier$Step" (89 : Nat) ({ cls := "CodeVerifier$Step", name := "takeReference", desc := "()V" } : Jvm.MethodName)) ∈ zT := zT_of (zt3 (List.mem_of_getElem? (i := 34) rfl)) rfl
theorem wd_516 : (Jvm.Cond.instanceMethod ({ cls := "CodeVerifier$Step", name := "takeReference", desc := "()V" } : Jvm.MethodName)) ∈ zT := zT_of (zt3 (List.mem_of_getElem? (i := 36) rfl)) rfl
theorem wd_517 : (Jvm.Cond.code ({ cls := "CodeVerifier$Step", name := "takeReference", desc := "()V" } : Jvm.MethodName) prog_7_method_17_code (1 : Nat) (Option.none : Option Jvm.ClassFile.FieldType)) ∈ zT := zT_of (zt3 (List.mem_of_getElem? (i := 37) rfl)) rfl
theorem wd_518 : (Jvm.Cond.methodLinkNest "CodeVerifier$Step" (148 : Nat) ({ cls := "CodeVerifier", name := "isReference", desc := "(I)Z" } : Jvm.MethodName) "CodeVerifier") ∈ tables_1 := zt3 (List.mem_of_getElem? (i := 38) rfl)
theorem wd_519 : (Jvm.Cond.methodLink "CodeVerifier$Step" (40 : Nat) ({ cls := "CodeVerifier$Step", name := "useObject", desc := "(LCodeVerifier$Instruction;)V" } : Jvm.MethodName)) ∈ zT := zT_of (zt3 (List.mem_of_getElem? (i := 39) rfl)) rfl
theorem wd_521 : (Jvm.Cond.instanceMethod ({ cls := "CodeVerifier$Step", name := "useObject", desc := "(LCodeVerifier$Instruction;)V" } : Jvm.MethodName)) ∈ zT := zT_of (zt3 (List.mem_of_getElem? (i := 41) rfl)) rfl
theorem wd_522 : (Jvm.Cond.code ({ cls := "CodeVerifier$Step", name := "useObject", desc := "(LCodeVerifier$Instruction;)V" } : Jvm.MethodName) prog_7_method_9_code (3 : Nat) (Option.none : Option Jvm.ClassFile.FieldType)) ∈ zT := zT_of (zt3 (List.mem_of_getElem? (i := 42) rfl)) rfl
theorem wd_523 : (Jvm.Cond.methodLink "CodeVerifier$Step" (92 : Nat) ({ cls := "CodeVerifier$Step", name := "takeInto", desc := "(I)V" } : Jvm.MethodName)) ∈ zT := zT_of (zt3 (List.mem_of_getElem? (i := 43) rfl)) rfl
theorem wd_525 : (Jvm.Cond.instanceMethod ({ cls := "CodeVerifier$Step", name := "takeInto", desc := "(I)V" } : Jvm.MethodName)) ∈ zT := zT_of (zt3 (List.mem_of_getElem? (i := 45) rfl)) rfl
theorem wd_526 : (Jvm.Cond.code ({ cls := "CodeVerifier$Step", name := "takeInto", desc := "(I)V" } : Jvm.MethodName) prog_7_method_19_code (2 : Nat) (Option.none : Option Jvm.ClassFile.FieldType)) ∈ zT := zT_of (zt3 (List.mem_of_getElem? (i := 46) rfl)) rfl
theorem wd_527 : (Jvm.Cond.methodLink "CodeVerifier$Step" (113 : Nat) ({ cls := "CodeVerifier$Told", name := "goesInto", desc := "(II)Z" } : Jvm.MethodName)) ∈ zT := zT_of (zt3 (List.mem_of_getElem? (i := 47) rfl)) rfl
theorem wd_528 : (Jvm.Cond.instanceMethod ({ cls := "CodeVerifier$Told", name := "goesInto", desc := "(II)Z" } : Jvm.MethodName)) ∈ zT := zT_of (zt3 (List.mem_of_getElem? (i := 48) rfl)) rfl
theorem wd_529 : (Jvm.Cond.selects "CodeVerifier$Told" ({ cls := "CodeVerifier$Told", name := "goesInto", desc := "(II)Z" } : Jvm.MethodName) ({ cls := "CodeVerifier$Told", name := "goesInto", desc := "(II)Z" } : Jvm.MethodName)) ∈ zT := zT_of (zt3 (List.mem_of_getElem? (i := 49) rfl)) rfl
theorem wd_530 : (Jvm.Cond.code ({ cls := "CodeVerifier$Told", name := "goesInto", desc := "(II)Z" } : Jvm.MethodName) prog_8_method_10_code (5 : Nat) (Option.some Jvm.ClassFile.FieldType.boolean)) ∈ zT := zT_of (zt3 (List.mem_of_getElem? (i := 50) rfl)) rfl
theorem wd_531 : (Jvm.Cond.methodLink "CodeVerifier$Told" (87 : Nat) ({ cls := "CodeVerifier$Kind", name := "isOrIsUnder", desc := "(I)Z" } : Jvm.MethodName)) ∈ zT := zT_of (zt3 (List.mem_of_getElem? (i := 51) rfl)) rfl
theorem wd_532 : (Jvm.Cond.instanceMethod ({ cls := "CodeVerifier$Kind", name := "isOrIsUnder", desc := "(I)Z" } : Jvm.MethodName)) ∈ zT := zT_of (zt3 (List.mem_of_getElem? (i := 52) rfl)) rfl
theorem wd_533 : (Jvm.Cond.selects "CodeVerifier$Kind" ({ cls := "CodeVerifier$Kind", name := "isOrIsUnder", desc := "(I)Z" } : Jvm.MethodName) ({ cls := "CodeVerifier$Kind", name := "isOrIsUnder", desc := "(I)Z" } : Jvm.MethodName)) ∈ zT := zT_of (zt3 (List.mem_of_getElem? (i := 53) rfl)) rfl
theorem wd_534 : (Jvm.Cond.code ({ cls := "CodeVerifier$Kind", name := "isOrIsUnder", desc := "(I)Z" } : Jvm.MethodName) prog_4_method_3_code (2 : Nat) (Option.some Jvm.ClassFile.FieldType.boolean)) ∈ zT := zT_of (zt3 (List.mem_of_getElem? (i := 54) rfl)) rfl
theorem wd_535 : (Jvm.Cond.methodLink "CodeVerifier$Step" (98 : Nat) ({ cls := "CodeVerifier$Told", name := "fieldType", desc := "(II)I" } : Jvm.MethodName)) ∈ zT := zT_of (zt3 (List.mem_of_getElem? (i := 55) rfl)) rfl
theorem wd_536 : (Jvm.Cond.methodLink "CodeVerifier$Step" (43 : Nat) ({ cls := "CodeVerifier$Step", name := "useRow", desc := "(LCodeVerifier$Instruction;)V" } : Jvm.MethodName)) ∈ zT := zT_of (zt3 (List.mem_of_getElem? (i := 56) rfl)) rfl
theorem wd_538 : (Jvm.Cond.instanceMethod ({ cls := "CodeVerifier$Step", name := "useRow", desc := "(LCodeVerifier$Instruction;)V" } : Jvm.MethodName)) ∈ zT := zT_of (zt3 (List.mem_of_getElem? (i := 58) rfl)) rfl
theorem wd_539 : (Jvm.Cond.code ({ cls := "CodeVerifier$Step", name := "useRow", desc := "(LCodeVerifier$Instruction;)V" } : Jvm.MethodName) prog_7_method_10_code (5 : Nat) (Option.none : Option Jvm.ClassFile.FieldType)) ∈ zT := zT_of (zt3 (List.mem_of_getElem? (i := 59) rfl)) rfl
theorem wd_540 : (Jvm.Cond.methodLinkNest "CodeVerifier$Step" (104 : Nat) ({ cls := "CodeVerifier", name := "rowOf", desc := "(I)I" } : Jvm.MethodName) "CodeVerifier") ∈ tables_1 := zt3 (List.mem_of_getElem? (i := 60) rfl)
theorem wd_541 : (Jvm.Cond.static ({ cls := "CodeVerifier", name := "rowOf", desc := "(I)I" } : Jvm.MethodName)) ∈ zT := zT_of (zt3 (List.mem_of_getElem? (i := 61) rfl)) rfl
theorem wd_542 : (Jvm.Cond.code ({ cls := "CodeVerifier", name := "rowOf", desc := "(I)I" } : Jvm.MethodName) prog_1_method_17_code (1 : Nat) (Option.some Jvm.ClassFile.FieldType.int)) ∈ zT := zT_of (zt3 (List.mem_of_getElem? (i := 62) rfl)) rfl
theorem wd_543 : (Jvm.Cond.methodLink "CodeVerifier$Step" (107 : Nat) ({ cls := "CodeVerifier$Step", name := "takeRow", desc := "()I" } : Jvm.MethodName)) ∈ zT := zT_of (zt3 (List.mem_of_getElem? (i := 63) rfl)) rfl
theorem wd_545 : (Jvm.Cond.instanceMethod ({ cls := "CodeVerifier$Step", name := "takeRow", desc := "()I" } : Jvm.MethodName)) ∈ zT := zT_of (zt3 (List.mem_of_getElem? (i := 65) rfl)) rfl
theorem wd_546 : (Jvm.Cond.code ({ cls := "CodeVerifier$Step", name := "takeRow", desc := "()I" } : Jvm.MethodName) prog_7_method_18_code (2 : Nat) (Option.some Jvm.ClassFile.FieldType.int)) ∈ zT := zT_of (zt3 (List.mem_of_getElem? (i := 66) rfl)) rfl
theorem wd_547 : (Jvm.Cond.methodLinkNest "CodeVerifier$Step" (151 : Nat) ({ cls := "CodeVerifier", name := "isRowType", desc := "(I)Z" } : Jvm.MethodName) "CodeVerifier") ∈ tables_1 := zt3 (List.mem_of_getElem? (i := 67) rfl)
theorem wd_548 : (Jvm.Cond.methodLinkNest "CodeVerifier$Step" (110 : Nat) ({ cls := "CodeVerifier", name := "elementOf", desc := "(I)I" } : Jvm.MethodName) "CodeVerifier") ∈ tables_1 := zt3 (List.mem_of_getElem? (i := 68) rfl)
theorem wd_549 : (Jvm.Cond.methodLink "CodeVerifier$Step" (46 : Nat) ({ cls := "CodeVerifier$Step", name := "invoke", desc := "(LCodeVerifier$Instruction;)V" } : Jvm.MethodName)) ∈ zT := zT_of (zt3 (List.mem_of_getElem? (i := 69) rfl)) rfl
theorem wd_551 : (Jvm.Cond.instanceMethod ({ cls := "CodeVerifier$Step", name := "invoke", desc := "(LCodeVerifier$Instruction;)V" } : Jvm.MethodName)) ∈ zT := zT_of (zt3 (List.mem_of_getElem? (i := 71) rfl)) rfl
theorem wd_552 : (Jvm.Cond.code ({ cls := "CodeVerifier$Step", name := "invoke", desc := "(LCodeVerifier$Instruction;)V" } : Jvm.MethodName) prog_7_method_11_code (6 : Nat) (Option.none : Option Jvm.ClassFile.FieldType)) ∈ zT := zT_of (zt3 (List.mem_of_getElem? (i := 72) rfl)) rfl
theorem wd_553 : (Jvm.Cond.methodLink "CodeVerifier$Step" (117 : Nat) ({ cls := "CodeVerifier$Told", name := "methodInSlot", desc := "(II)LCodeVerifier$Method;" } : Jvm.MethodName)) ∈ zT := zT_of (zt3 (List.mem_of_getElem? (i := 73) rfl)) rfl
theorem wd_554 : (Jvm.Cond.methodLink "CodeVerifier$Step" (121 : Nat) ({ cls := "CodeVerifier$Told", name := "methodAt", desc := "(I)LCodeVerifier$Method;" } : Jvm.MethodName)) ∈ zT := zT_of (zt3 (List.mem_of_getElem? (i := 74) rfl)) rfl
theorem wd_555 : (Jvm.Cond.methodLink "CodeVerifier$Step" (130 : Nat) ({ cls := "CodeVerifier$Method", name := "parameterAt", desc := "(I)I" } : Jvm.MethodName)) ∈ zT := zT_of (zt3 (List.mem_of_getElem? (i := 75) rfl)) rfl
theorem wd_556 : (Jvm.Cond.methodLink "CodeVerifier$Step" (49 : Nat) ({ cls := "CodeVerifier$Step", name := "leaveOrTalk", desc := "(LCodeVerifier$Method;I)V" } : Jvm.MethodName)) ∈ zT := zT_of (zt3 (List.mem_of_getElem? (i := 76) rfl)) rfl
theorem wd_558 : (Jvm.Cond.instanceMethod ({ cls := "CodeVerifier$Step", name := "leaveOrTalk", desc := "(LCodeVerifier$Method;I)V" } : Jvm.MethodName)) ∈ zT := zT_of (zt3 (List.mem_of_getElem? (i := 78) rfl)) rfl
theorem wd_559 : (Jvm.Cond.code ({ cls := "CodeVerifier$Step", name := "leaveOrTalk", desc := "(LCodeVerifier$Method;I)V" } : Jvm.MethodName) prog_7_method_12_code (4 : Nat) (Option.none : Option Jvm.ClassFile.FieldType)) ∈ zT := zT_of (zt3 (List.mem_of_getElem? (i := 79) rfl)) rfl
theorem wd_560 : (Jvm.Cond.methodLinkNest "CodeVerifier$Step" (136 : Nat) ({ cls := "CodeVerifier", name := "isKindType", desc := "(I)Z" } : Jvm.MethodName) "CodeVerifier") ∈ tables_1 := zt3 (List.mem_of_getElem? (i := 80) rfl)
theorem wd_561 : (Jvm.Cond.static ({ cls := "CodeVerifier", name := "isKindType", desc := "(I)Z" } : Jvm.MethodName)) ∈ zT := zT_of (zt3 (List.mem_of_getElem? (i := 81) rfl)) rfl
theorem wd_562 : (Jvm.Cond.code ({ cls := "CodeVerifier", name := "isKindType", desc := "(I)Z" } : Jvm.MethodName) prog_1_method_14_code (1 : Nat) (Option.some Jvm.ClassFile.FieldType.boolean)) ∈ zT := zT_of (zt3 (List.mem_of_getElem? (i := 82) rfl)) rfl
theorem wd_563 : (Jvm.Cond.methodLink "CodeVerifier$Walk" (95 : Nat) ({ cls := "CodeVerifier$Instruction", name := "goesOnBehind", desc := "()Z" } : Jvm.MethodName)) ∈ zT := zT_of (zt3 (List.mem_of_getElem? (i := 83) rfl)) rfl
theorem wd_564 : (Jvm.Cond.instanceMethod ({ cls := "CodeVerifier$Instruction", name := "goesOnBehind", desc := "()Z" } : Jvm.MethodName)) ∈ zT := zT_of (zt3 (List.mem_of_getElem? (i := 84) rfl)) rfl
theorem wd_565 : (Jvm.Cond.selects "CodeVerifier$Instruction" ({ cls := "CodeVerifier$Instruction", name := "goesOnBehind", desc := "()Z" } : Jvm.MethodName) ({ cls := "CodeVerifier$Instruction", name := "goesOnBehind", desc := "()Z" } : Jvm.MethodName)) ∈ zT := zT_of (zt3 (List.mem_of_getElem? (i := 85) rfl)) rfl
theorem wd_566 : (Jvm.Cond.code ({ cls := "CodeVerifier$Instruction", name := "goesOnBehind", desc := "()Z" } : Jvm.MethodName) prog_3_method_3_code (1 : Nat) (Option.some Jvm.ClassFile.FieldType.boolean)) ∈ zT := zT_of (zt3 (List.mem_of_getElem? (i := 86) rfl)) rfl
theorem wd_567 : (Jvm.Cond.methodLink "CodeVerifier$Walk" (99 : Nat) ({ cls := "CodeVerifier$Instruction", name := "isJump", desc := "()Z" } : Jvm.MethodName)) ∈ zT := zT_of (zt3 (List.mem_of_getElem? (i := 87) rfl)) rfl
theorem wd_568 : (Jvm.Cond.instanceMethod ({ cls := "CodeVerifier$Instruction", name := "isJump", desc := "()Z" } : Jvm.MethodName)) ∈ zT := zT_of (zt3 (List.mem_of_getElem? (i := 88) rfl)) rfl
theorem wd_569 : (Jvm.Cond.selects "CodeVerifier$Instruction" ({ cls := "CodeVerifier$Instruction", name := "isJump", desc := "()Z" } : Jvm.MethodName) ({ cls := "CodeVerifier$Instruction", name := "isJump", desc := "()Z" } : Jvm.MethodName)) ∈ zT := zT_of (zt3 (List.mem_of_getElem? (i := 89) rfl)) rfl
theorem wd_570 : (Jvm.Cond.code ({ cls := "CodeVerifier$Instruction", name := "isJump", desc := "()Z" } : Jvm.MethodName) prog_3_method_2_code (1 : Nat) (Option.some Jvm.ClassFile.FieldType.boolean)) ∈ zT := zT_of (zt3 (List.mem_of_getElem? (i := 90) rfl)) rfl
theorem wd_571 : (Jvm.Cond.methodLink "CodeVerifierLaw" (50 : Nat) ({ cls := "CodeVerifier", name := "stands", desc := "(IIII)I" } : Jvm.MethodName)) ∈ zT := zT_of (zt3 (List.mem_of_getElem? (i := 91) rfl)) rfl
theorem wd_572 : (Jvm.Cond.instanceMethod ({ cls := "CodeVerifier", name := "stands", desc := "(IIII)I" } : Jvm.MethodName)) ∈ zT := zT_of (zt3 (List.mem_of_getElem? (i := 92) rfl)) rfl
theorem wd_573 : (Jvm.Cond.selects "CodeVerifier" ({ cls := "CodeVerifier", name := "stands", desc := "(IIII)I" } : Jvm.MethodName) ({ cls := "CodeVerifier", name := "stands", desc := "(IIII)I" } : Jvm.MethodName)) ∈ zT := zT_of (zt3 (List.mem_of_getElem? (i := 93) rfl)) rfl
theorem wd_574 : (Jvm.Cond.code ({ cls := "CodeVerifier", name := "stands", desc := "(IIII)I" } : Jvm.MethodName) prog_1_method_10_code (7 : Nat) (Option.some Jvm.ClassFile.FieldType.int)) ∈ zT := zT_of (zt3 (List.mem_of_getElem? (i := 94) rfl)) rfl
theorem wd_575 : (Jvm.Cond.methodLink "CodeVerifier" (111 : Nat) ({ cls := "CodeVerifier$Method", name := "instructionAt", desc := "(I)LCodeVerifier$Instruction;" } : Jvm.MethodName)) ∈ zT := zT_of (zt3 (List.mem_of_getElem? (i := 95) rfl)) rfl
theorem wd_576 : (Jvm.Cond.methodLink "CodeVerifier" (130 : Nat) ({ cls := "CodeVerifier$Row", name := "localAt", desc := "(I)I" } : Jvm.MethodName)) ∈ zT := zT_of (zt3 (List.mem_of_getElem? (i := 96) rfl)) rfl
theorem wd_577 : (Jvm.Cond.methodLink "CodeVerifier" (133 : Nat) ({ cls := "CodeVerifier$Row", name := "placeAt", desc := "(I)I" } : Jvm.MethodName)) ∈ zT := zT_of (zt3 (List.mem_of_getElem? (i := 97) rfl)) rfl
theorem wd_578 : (Jvm.Cond.methodLink "CodeVerifierLaw" (54 : Nat) ({ cls := "CodeVerifier", name := "looked", desc := "()I" } : Jvm.MethodName)) ∈ zT := zT_of (zt3 (List.mem_of_getElem? (i := 98) rfl)) rfl
theorem wd_579 : (Jvm.Cond.instanceMethod ({ cls := "CodeVerifier", name := "looked", desc := "()I" } : Jvm.MethodName)) ∈ zT := zT_of (zt3 (List.mem_of_getElem? (i := 99) rfl)) rfl
theorem wd_580 : (Jvm.Cond.selects "CodeVerifier" ({ cls := "CodeVerifier", name := "looked", desc := "()I" } : Jvm.MethodName) ({ cls := "CodeVerifier", name := "looked", desc := "()I" } : Jvm.MethodName)) ∈ zT := zT_of (zt3 (List.mem_of_getElem? (i := 100) rfl)) rfl
theorem wd_581 : (Jvm.Cond.code ({ cls := "CodeVerifier", name := "looked", desc := "()I" } : Jvm.MethodName) prog_1_method_11_code (1 : Nat) (Option.some Jvm.ClassFile.FieldType.int)) ∈ zT := zT_of (zt3 (List.mem_of_getElem? (i := 101) rfl)) rfl
theorem wd_582 : (Jvm.Cond.classLink "CodeVerifierLaw" (10 : Nat) "CodeVerifierModel") ∈ zT := zT_of (zt3 (List.mem_of_getElem? (i := 102) rfl)) rfl
theorem wd_583 : (Jvm.Cond.instantiable "CodeVerifierModel" (32 : Nat)) ∈ zT := zT_of (zt3 (List.mem_of_getElem? (i := 103) rfl)) rfl
theorem wd_584 : (Jvm.Cond.methodLink "CodeVerifierLaw" (12 : Nat) ({ cls := "CodeVerifierModel", name := "<init>", desc := "()V" } : Jvm.MethodName)) ∈ zT := zT_of (zt3 (List.mem_of_getElem? (i := 104) rfl)) rfl
theorem wd_585 : (Jvm.Cond.instanceMethod ({ cls := "CodeVerifierModel", name := "<init>", desc := "()V" } : Jvm.MethodName)) ∈ zT := zT_of (zt3 (List.mem_of_getElem? (i := 105) rfl)) rfl
theorem wd_586 : (Jvm.Cond.code ({ cls := "CodeVerifierModel", name := "<init>", desc := "()V" } : Jvm.MethodName) prog_11_method_1_code (1 : Nat) (Option.none : Option Jvm.ClassFile.FieldType)) ∈ zT := zT_of (zt3 (List.mem_of_getElem? (i := 106) rfl)) rfl
theorem wd_587 : (Jvm.Cond.methodLink "CodeVerifierModel" (1 : Nat) ({ cls := "java/lang/Object", name := "<init>", desc := "()V" } : Jvm.MethodName)) ∈ zT := zT_of (zt3 (List.mem_of_getElem? (i := 107) rfl)) rfl
theorem wd_588 : (Jvm.Cond.constant "CodeVerifierModel" (80 : Nat) (153600 : Int32)) ∈ zT := zT_of (zt3 (List.mem_of_getElem? (i := 108) rfl)) rfl
theorem wd_589 : (Jvm.Cond.fieldLink "CodeVerifierModel" (90 : Nat) "CodeVerifierModel" "classes" "I") ∈ zT := zT_of (zt3 (List.mem_of_getElem? (i := 109) rfl)) rfl
theorem wd_590 : (Jvm.Cond.fieldLink "CodeVerifierModel" (9 : Nat) "CodeVerifierModel" "uppers" "[I") ∈ zT := zT_of (zt3 (List.mem_of_getElem? (i := 110) rfl)) rfl
theorem wd_591 : (Jvm.Cond.fieldLink "CodeVerifierModel" (13 : Nat) "CodeVerifierModel" "used" "[Z") ∈ zT := zT_of (zt3 (List.mem_of_getElem? (i := 111) rfl)) rfl
theorem wd_592 : (Jvm.Cond.fieldLink "CodeVerifierModel" (17 : Nat) "CodeVerifierModel" "fieldCounts" "[I") ∈ zT := zT_of (zt3 (List.mem_of_getElem? (i := 112) rfl)) rfl
theorem wd_593 : (Jvm.Cond.fieldLink "CodeVerifierModel" (20 : Nat) "CodeVerifierModel" "fieldTypes" "[I") ∈ zT := zT_of (zt3 (List.mem_of_getElem? (i := 113) rfl)) rfl
theorem wd_594 : (Jvm.Cond.fieldLink "CodeVerifierModel" (23 : Nat) "CodeVerifierModel" "slots" "[I") ∈ zT := zT_of (zt3 (List.mem_of_getElem? (i := 114) rfl)) rfl
theorem wd_595 : (Jvm.Cond.fieldLink "CodeVerifierModel" (94 : Nat) "CodeVerifierModel" "methods" "I") ∈ zT := zT_of (zt3 (List.mem_of_getElem? (i := 115) rfl)) rfl
theorem wd_596 : (Jvm.Cond.fieldLink "CodeVerifierModel" (26 : Nat) "CodeVerifierModel" "owners" "[I") ∈ zT := zT_of (zt3 (List.mem_of_getElem? (i := 116) rfl)) rfl
theorem wd_597 : (Jvm.Cond.fieldLink "CodeVerifierModel" (29 : Nat) "CodeVerifierModel" "gives" "[I") ∈ zT := zT_of (zt3 (List.mem_of_getElem? (i := 117) rfl)) rfl
theorem wd_598 : (Jvm.Cond.fieldLink "CodeVerifierModel" (32 : Nat) "CodeVerifierModel" "locals" "[I") ∈ zT := zT_of (zt3 (List.mem_of_getElem? (i := 118) rfl)) rfl
theorem wd_599 : (Jvm.Cond.fieldLink "CodeVerifierModel" (35 : Nat) "CodeVerifierModel" "heights" "[I") ∈ zT := zT_of (zt3 (List.mem_of_getElem? (i := 119) rfl)) rfl
theorem wd_600 : (Jvm.Cond.fieldLink "CodeVerifierModel" (38 : Nat) "CodeVerifierModel" "parameterCounts" "[I") ∈ zT := zT_of (zt3 (List.mem_of_getElem? (i := 120) rfl)) rfl
theorem wd_601 : (Jvm.Cond.fieldLink "CodeVerifierModel" (41 : Nat) "CodeVerifierModel" "parameterTypes" "[I") ∈ zT := zT_of (zt3 (List.mem_of_getElem? (i := 121) rfl)) rfl
theorem wd_602 : (Jvm.Cond.fieldLink "CodeVerifierModel" (44 : Nat) "CodeVerifierModel" "slotted" "[Z") ∈ zT := zT_of (zt3 (List.mem_of_getElem? (i := 122) rfl)) rfl
theorem wd_603 : (Jvm.Cond.fieldLink "CodeVerifierModel" (47 : Nat) "CodeVerifierModel" "sizes" "[I") ∈ zT := zT_of (zt3 (List.mem_of_getElem? (i := 123) rfl)) rfl
theorem wd_604 : (Jvm.Cond.fieldLink "CodeVerifierModel" (50 : Nat) "CodeVerifierModel" "ops" "[I") ∈ zT := zT_of (zt3 (List.mem_of_getElem? (i := 124) rfl)) rfl
theorem wd_605 : (Jvm.Cond.fieldLink "CodeVerifierModel" (53 : Nat) "CodeVerifierModel" "xs" "[I") ∈ zT := zT_of (zt3 (List.mem_of_getElem? (i := 125) rfl)) rfl
theorem wd_606 : (Jvm.Cond.fieldLink "CodeVerifierModel" (56 : Nat) "CodeVerifierModel" "ys" "[I") ∈ zT := zT_of (zt3 (List.mem_of_getElem? (i := 126) rfl)) rfl
theorem wd_607 : (Jvm.Cond.fieldLink "CodeVerifierModel" (59 : Nat) "CodeVerifierModel" "handlerCounts" "[I") ∈ zT := zT_of (zt3 (List.mem_of_getElem? (i := 127) rfl)) rfl
theorem wd_608 : (Jvm.Cond.fieldLink "CodeVerifierModel" (62 : Nat) "CodeVerifierModel" "froms" "[I") ∈ zT := zT_of (zt3 (List.mem_of_getElem? (i := 128) rfl)) rfl
theorem wd_609 : (Jvm.Cond.fieldLink "CodeVerifierModel" (65 : Nat) "CodeVerifierModel" "tos" "[I") ∈ zT := zT_of (zt3 (List.mem_of_getElem? (i := 129) rfl)) rfl
theorem wd_610 : (Jvm.Cond.fieldLink "CodeVerifierModel" (68 : Nat) "CodeVerifierModel" "caught" "[I") ∈ zT := zT_of (zt3 (List.mem_of_getElem? (i := 130) rfl)) rfl
theorem wd_611 : (Jvm.Cond.fieldLink "CodeVerifierModel" (71 : Nat) "CodeVerifierModel" "targets" "[I") ∈ zT := zT_of (zt3 (List.mem_of_getElem? (i := 131) rfl)) rfl
theorem wd_612 : (Jvm.Cond.fieldLink "CodeVerifierModel" (74 : Nat) "CodeVerifierModel" "verified" "[Z") ∈ zT := zT_of (zt3 (List.mem_of_getElem? (i := 132) rfl)) rfl
theorem wd_613 : (Jvm.Cond.fieldLink "CodeVerifierModel" (77 : Nat) "CodeVerifierModel" "high" "[I") ∈ zT := zT_of (zt3 (List.mem_of_getElem? (i := 133) rfl)) rfl
theorem wd_614 : (Jvm.Cond.fieldLink "CodeVerifierModel" (81 : Nat) "CodeVerifierModel" "types" "[I") ∈ zT := zT_of (zt3 (List.mem_of_getElem? (i := 134) rfl)) rfl
theorem wd_615 : (Jvm.Cond.fieldLink "CodeVerifierModel" (84 : Nat) "CodeVerifierModel" "marks" "[Z") ∈ zT := zT_of (zt3 (List.mem_of_getElem? (i := 135) rfl)) rfl
theorem wd_616 : (Jvm.Cond.fieldLink "CodeVerifierModel" (183 : Nat) "CodeVerifierModel" "looked" "I") ∈ zT := zT_of (zt3 (List.mem_of_getElem? (i := 136) rfl)) rfl
theorem wd_617 : (Jvm.Cond.fieldLink "CodeVerifierModel" (87 : Nat) "CodeVerifierModel" "now" "[I") ∈ zT := zT_of (zt3 (List.mem_of_getElem? (i := 137) rfl)) rfl
theorem wd_618 : (Jvm.Cond.fieldLink "CodeVerifierModel" (124 : Nat) "CodeVerifierModel" "top" "I") ∈ zT := zT_of (zt3 (List.mem_of_getElem? (i := 138) rfl)) rfl
theorem wd_619 : (Jvm.Cond.fieldLink "CodeVerifierModel" (134 : Nat) "CodeVerifierModel" "here" "I") ∈ zT := zT_of (zt3 (List.mem_of_getElem? (i := 139) rfl)) rfl
theorem wd_620 : (Jvm.Cond.fieldLink "CodeVerifierModel" (127 : Nat) "CodeVerifierModel" "wrong" "I") ∈ zT := zT_of (zt3 (List.mem_of_getElem? (i := 140) rfl)) rfl
theorem wd_621 : (Jvm.Cond.lays "CodeVerifierModel" "CodeVerifierModel" "classes" "I") ∈ zT := zT_of (zt3 (List.mem_of_getElem? (i := 141) rfl)) rfl
theorem wd_623 : (Jvm.Cond.laysFinal "CodeVerifierModel" "CodeVerifierModel" "uppers" "[I") ∈ zT := zT_of (zt3 (List.mem_of_getElem? (i := 143) rfl)) rfl
theorem wd_625 : (Jvm.Cond.laysFinal "CodeVerifierModel" "CodeVerifierModel" "used" "[Z") ∈ zT := zT_of (zt3 (List.mem_of_getElem? (i := 145) rfl)) rfl
theorem wd_627 : (Jvm.Cond.laysFinal "CodeVerifierModel" "CodeVerifierModel" "fieldCounts" "[I") ∈ zT := zT_of (zt3 (List.mem_of_getElem? (i := 147) rfl)) rfl
theorem wd_629 : (Jvm.Cond.laysFinal "CodeVerifierModel" "CodeVerifierModel" "fieldTypes" "[I") ∈ zT := zT_of (zt3 (List.mem_of_getElem? (i := 149) rfl)) rfl
theorem wd_631 : (Jvm.Cond.laysFinal "CodeVerifierModel" "CodeVerifierModel" "slots" "[I") ∈ zT := zT_of (zt3 (List.mem_of_getElem? (i := 151) rfl)) rfl
theorem wd_633 : (Jvm.Cond.lays "CodeVerifierModel" "CodeVerifierModel" "methods" "I") ∈ zT := zT_of (zt3 (List.mem_of_getElem? (i := 153) rfl)) rfl
theorem wd_635 : (Jvm.Cond.laysFinal "CodeVerifierModel" "CodeVerifierModel" "owners" "[I") ∈ zT := zT_of (zt3 (List.mem_of_getElem? (i := 155) rfl)) rfl
theorem wd_637 : (Jvm.Cond.laysFinal "CodeVerifierModel" "CodeVerifierModel" "gives" "[I") ∈ zT := zT_of (zt3 (List.mem_of_getElem? (i := 157) rfl)) rfl
theorem wd_639 : (Jvm.Cond.laysFinal "CodeVerifierModel" "CodeVerifierModel" "locals" "[I") ∈ zT := zT_of (zt3 (List.mem_of_getElem? (i := 159) rfl)) rfl
theorem wd_641 : (Jvm.Cond.laysFinal "CodeVerifierModel" "CodeVerifierModel" "heights" "[I") ∈ zT := zT_of (zt3 (List.mem_of_getElem? (i := 161) rfl)) rfl
theorem wd_643 : (Jvm.Cond.laysFinal "CodeVerifierModel" "CodeVerifierModel" "parameterCounts" "[I") ∈ zT := zT_of (zt3 (List.mem_of_getElem? (i := 163) rfl)) rfl
theorem wd_645 : (Jvm.Cond.laysFinal "CodeVerifierModel" "CodeVerifierModel" "parameterTypes" "[I") ∈ zT := zT_of (zt3 (List.mem_of_getElem? (i := 165) rfl)) rfl
theorem wd_647 : (Jvm.Cond.laysFinal "CodeVerifierModel" "CodeVerifierModel" "slotted" "[Z") ∈ zT := zT_of (zt3 (List.mem_of_getElem? (i := 167) rfl)) rfl
theorem wd_649 : (Jvm.Cond.laysFinal "CodeVerifierModel" "CodeVerifierModel" "sizes" "[I") ∈ zT := zT_of (zt3 (List.mem_of_getElem? (i := 169) rfl)) rfl
theorem wd_651 : (Jvm.Cond.laysFinal "CodeVerifierModel" "CodeVerifierModel" "ops" "[I") ∈ zT := zT_of (zt3 (List.mem_of_getElem? (i := 171) rfl)) rfl
theorem wd_653 : (Jvm.Cond.laysFinal "CodeVerifierModel" "CodeVerifierModel" "xs" "[I") ∈ zT := zT_of (zt3 (List.mem_of_getElem? (i := 173) rfl)) rfl
theorem wd_655 : (Jvm.Cond.laysFinal "CodeVerifierModel" "CodeVerifierModel" "ys" "[I") ∈ zT := zT_of (zt3 (List.mem_of_getElem? (i := 175) rfl)) rfl
theorem wd_657 : (Jvm.Cond.laysFinal "CodeVerifierModel" "CodeVerifierModel" "handlerCounts" "[I") ∈ zT := zT_of (zt3 (List.mem_of_getElem? (i := 177) rfl)) rfl
theorem wd_659 : (Jvm.Cond.laysFinal "CodeVerifierModel" "CodeVerifierModel" "froms" "[I") ∈ zT := zT_of (zt3 (List.mem_of_getElem? (i := 179) rfl)) rfl
theorem wd_661 : (Jvm.Cond.laysFinal "CodeVerifierModel" "CodeVerifierModel" "tos" "[I") ∈ zT := zT_of (zt3 (List.mem_of_getElem? (i := 181) rfl)) rfl
theorem wd_663 : (Jvm.Cond.laysFinal "CodeVerifierModel" "CodeVerifierModel" "caught" "[I") ∈ zT := zT_of (zt3 (List.mem_of_getElem? (i := 183) rfl)) rfl
theorem wd_665 : (Jvm.Cond.laysFinal "CodeVerifierModel" "CodeVerifierModel" "targets" "[I") ∈ zT := zT_of (zt3 (List.mem_of_getElem? (i := 185) rfl)) rfl
theorem wd_667 : (Jvm.Cond.laysFinal "CodeVerifierModel" "CodeVerifierModel" "verified" "[Z") ∈ zT := zT_of (zt3 (List.mem_of_getElem? (i := 187) rfl)) rfl
theorem wd_669 : (Jvm.Cond.laysFinal "CodeVerifierModel" "CodeVerifierModel" "high" "[I") ∈ zT := zT_of (zt3 (List.mem_of_getElem? (i := 189) rfl)) rfl
theorem wd_671 : (Jvm.Cond.laysFinal "CodeVerifierModel" "CodeVerifierModel" "types" "[I") ∈ zT := zT_of (zt3 (List.mem_of_getElem? (i := 191) rfl)) rfl
theorem wd_673 : (Jvm.Cond.laysFinal "CodeVerifierModel" "CodeVerifierModel" "marks" "[Z") ∈ zT := zT_of (zt3 (List.mem_of_getElem? (i := 193) rfl)) rfl
theorem wd_675 : (Jvm.Cond.lays "CodeVerifierModel" "CodeVerifierModel" "looked" "I") ∈ zT := zT_of (zt3 (List.mem_of_getElem? (i := 195) rfl)) rfl
theorem wd_677 : (Jvm.Cond.laysFinal "CodeVerifierModel" "CodeVerifierModel" "now" "[I") ∈ zT := zT_of (zt3 (List.mem_of_getElem? (i := 197) rfl)) rfl
theorem wd_679 : (Jvm.Cond.lays "CodeVerifierModel" "CodeVerifierModel" "top" "I") ∈ zT := zT_of (zt3 (List.mem_of_getElem? (i := 199) rfl)) rfl
theorem wd_681 : (Jvm.Cond.lays "CodeVerifierModel" "CodeVerifierModel" "here" "I") ∈ zT := zT_of (zt3 (List.mem_of_getElem? (i := 201) rfl)) rfl
theorem wd_683 : (Jvm.Cond.lays "CodeVerifierModel" "CodeVerifierModel" "wrong" "I") ∈ zT := zT_of (zt3 (List.mem_of_getElem? (i := 203) rfl)) rfl
theorem wd_686 : (Jvm.Cond.arrayClass Jvm.ClassFile.FieldType.boolean) ∈ zT := zT_of (zt3 (List.mem_of_getElem? (i := 206) rfl)) rfl
theorem wd_687 : (Jvm.Cond.methodLink "CodeVerifierLaw" (17 : Nat) ({ cls := "CodeVerifierModel", name := "kind", desc := "(I)I" } : Jvm.MethodName)) ∈ zT := zT_of (zt3 (List.mem_of_getElem? (i := 207) rfl)) rfl
theorem wd_688 : (Jvm.Cond.instanceMethod ({ cls := "CodeVerifierModel", name := "kind", desc := "(I)I" } : Jvm.MethodName)) ∈ zT := zT_of (zt3 (List.mem_of_getElem? (i := 208) rfl)) rfl
theorem wd_689 : (Jvm.Cond.selects "CodeVerifierModel" ({ cls := "CodeVerifierModel", name := "kind", desc := "(I)I" } : Jvm.MethodName) ({ cls := "CodeVerifierModel", name := "kind", desc := "(I)I" } : Jvm.MethodName)) ∈ zT := zT_of (zt3 (List.mem_of_getElem? (i := 209) rfl)) rfl
theorem wd_690 : (Jvm.Cond.code ({ cls := "CodeVerifierModel", name := "kind", desc := "(I)I" } : Jvm.MethodName) prog_11_method_9_code (4 : Nat) (Option.some Jvm.ClassFile.FieldType.int)) ∈ zT := zT_of (zt3 (List.mem_of_getElem? (i := 210) rfl)) rfl
theorem wd_691 : (Jvm.Cond.methodLink "CodeVerifierModel" (97 : Nat) ({ cls := "CodeVerifierModel", name := "isClass", desc := "(I)Z" } : Jvm.MethodName)) ∈ zT := zT_of (zt3 (List.mem_of_getElem? (i := 211) rfl)) rfl
theorem wd_693 : (Jvm.Cond.instanceMethod ({ cls := "CodeVerifierModel", name := "isClass", desc := "(I)Z" } : Jvm.MethodName)) ∈ zT := zT_of (zt3 (List.mem_of_getElem? (i := 213) rfl)) rfl
theorem wd_694 : (Jvm.Cond.code ({ cls := "CodeVerifierModel", name := "isClass", desc := "(I)Z" } : Jvm.MethodName) prog_11_method_2_code (2 : Nat) (Option.some Jvm.ClassFile.FieldType.boolean)) ∈ zT := zT_of (zt3 (List.mem_of_getElem? (i := 214) rfl)) rfl
theorem wd_695 : (Jvm.Cond.methodLink "CodeVerifierLaw" (22 : Nat) ({ cls := "CodeVerifierModel", name := "field", desc := "(II)I" } : Jvm.MethodName)) ∈ zT := zT_of (zt3 (List.mem_of_getElem? (i := 215) rfl)) rfl
theorem wd_696 : (Jvm.Cond.instanceMethod ({ cls := "CodeVerifierModel", name := "field", desc := "(II)I" } : Jvm.MethodName)) ∈ zT := zT_of (zt3 (List.mem_of_getElem? (i := 216) rfl)) rfl
theorem wd_697 : (Jvm.Cond.selects "CodeVerifierModel" ({ cls := "CodeVerifierModel", name := "field", desc := "(II)I" } : Jvm.MethodName) ({ cls := "CodeVerifierModel", name := "field", desc := "(II)I" } : Jvm.MethodName)) ∈ zT := zT_of (zt3 (List.mem_of_getElem? (i := 217) rfl)) rfl
theorem wd_698 : (Jvm.Cond.code ({ cls := "CodeVerifierModel", name := "field", desc := "(II)I" } : Jvm.MethodName) prog_11_method_10_code (3 : Nat) (Option.some Jvm.ClassFile.FieldType.int)) ∈ zT := zT_of (zt3 (List.mem_of_getElem? (i := 218) rfl)) rfl
theorem wd_699 : (Jvm.Cond.methodLink "CodeVerifierModel" (101 : Nat) ({ cls := "CodeVerifierModel", name := "isType", desc := "(I)Z" } : Jvm.MethodName)) ∈ zT := zT_of (zt3 (List.mem_of_getElem? (i := 219) rfl)) rfl
theorem wd_701 : (Jvm.Cond.instanceMethod ({ cls := "CodeVerifierModel", name := "isType", desc := "(I)Z" } : Jvm.MethodName)) ∈ zT := zT_of (zt3 (List.mem_of_getElem? (i := 221) rfl)) rfl
theorem wd_702 : (Jvm.Cond.code ({ cls := "CodeVerifierModel", name := "isType", desc := "(I)Z" } : Jvm.MethodName) prog_11_method_4_code (2 : Nat) (Option.some Jvm.ClassFile.FieldType.boolean)) ∈ zT := zT_of (zt3 (List.mem_of_getElem? (i := 222) rfl)) rfl
theorem wd_703 : (Jvm.Cond.methodLink "CodeVerifierLaw" (27 : Nat) ({ cls := "CodeVerifierModel", name := "method", desc := "(IIII)I" } : Jvm.MethodName)) ∈ zT := zT_of (zt3 (List.mem_of_getElem? (i := 223) rfl)) rfl
theorem wd_704 : (Jvm.Cond.instanceMethod ({ cls := "CodeVerifierModel", name := "method", desc := "(IIII)I" } : Jvm.MethodName)) ∈ zT := zT_of (zt3 (List.mem_of_getElem? (i := 224) rfl)) rfl
theorem wd_705 : (Jvm.Cond.selects "CodeVerifierModel" ({ cls := "CodeVerifierModel", name := "method", desc := "(IIII)I" } : Jvm.MethodName) ({ cls := "CodeVerifierModel", name := "method", desc := "(IIII)I" } : Jvm.MethodName)) ∈ zT := zT_of (zt3 (List.mem_of_getElem? (i := 225) rfl)) rfl
theorem wd_706 : (Jvm.Cond.code ({ cls := "CodeVerifierModel", name := "method", desc := "(IIII)I" } : Jvm.MethodName) prog_11_method_11_code (6 : Nat) (Option.some Jvm.ClassFile.FieldType.int)) ∈ zT := zT_of (zt3 (List.mem_of_getElem? (i := 226) rfl)) rfl
theorem wd_707 : (Jvm.Cond.methodLink "CodeVerifierLaw" (31 : Nat) ({ cls := "CodeVerifierModel", name := "parameter", desc := "(II)I" } : Jvm.MethodName)) ∈ zT := zT_of (zt3 (List.mem_of_getElem? (i := 227) rfl)) rfl
theorem wd_708 : (Jvm.Cond.instanceMethod ({ cls := "CodeVerifierModel", name := "parameter", desc := "(II)I" } : Jvm.MethodName)) ∈ zT := zT_of (zt3 (List.mem_of_getElem? (i := 228) rfl)) rfl
theorem wd_709 : (Jvm.Cond.selects "CodeVerifierModel" ({ cls := "CodeVerifierModel", name := "parameter", desc := "(II)I" } : Jvm.MethodName) ({ cls := "CodeVerifierModel", name := "parameter", desc := "(II)I" } : Jvm.MethodName)) ∈ zT := zT_of (zt3 (List.mem_of_getElem? (i := 229) rfl)) rfl
theorem wd_710 : (Jvm.Cond.code ({ cls := "CodeVerifierModel", name := "parameter", desc := "(II)I" } : Jvm.MethodName) prog_11_method_12_code (3 : Nat) (Option.some Jvm.ClassFile.FieldType.int)) ∈ zT := zT_of (zt3 (List.mem_of_getElem? (i := 230) rfl)) rfl
theorem wd_711 : (Jvm.Cond.methodLink "CodeVerifierModel" (104 : Nat) ({ cls := "CodeVerifierModel", name := "isMethod", desc := "(I)Z" } : Jvm.MethodName)) ∈ zT := zT_of (zt3 (List.mem_of_getElem? (i := 231) rfl)) rfl
theorem wd_713 : (Jvm.Cond.instanceMethod ({ cls := "CodeVerifierModel", name := "isMethod", desc := "(I)Z" } : Jvm.MethodName)) ∈ zT := zT_of (zt3 (List.mem_of_getElem? (i := 233) rfl)) rfl
theorem wd_714 : (Jvm.Cond.code ({ cls := "CodeVerifierModel", name := "isMethod", desc := "(I)Z" } : Jvm.MethodName) prog_11_method_3_code (2 : Nat) (Option.some Jvm.ClassFile.FieldType.boolean)) ∈ zT := zT_of (zt3 (List.mem_of_getElem? (i := 234) rfl)) rfl
theorem wd_715 : (Jvm.Cond.methodLink "CodeVerifierLaw" (36 : Nat) ({ cls := "CodeVerifierModel", name := "slot", desc := "(II)Z" } : Jvm.MethodName)) ∈ zT := zT_of (zt3 (List.mem_of_getElem? (i := 235) rfl)) rfl
theorem wd_716 : (Jvm.Cond.instanceMethod ({ cls := "CodeVerifierModel", name := "slot", desc := "(II)Z" } : Jvm.MethodName)) ∈ zT := zT_of (zt3 (List.mem_of_getElem? (i := 236) rfl)) rfl
theorem wd_717 : (Jvm.Cond.selects "CodeVerifierModel" ({ cls := "CodeVerifierModel", name := "slot", desc := "(II)Z" } : Jvm.MethodName) ({ cls := "CodeVerifierModel", name := "slot", desc := "(II)Z" } : Jvm.MethodName)) ∈ zT := zT_of (zt3 (List.mem_of_getElem? (i := 237) rfl)) rfl
theorem wd_718 : (Jvm.Cond.code ({ cls := "CodeVerifierModel", name := "slot", desc := "(II)Z" } : Jvm.MethodName) prog_11_method_14_code (5 : Nat) (Option.some Jvm.ClassFile.FieldType.boolean)) ∈ zT := zT_of (zt3 (List.mem_of_getElem? (i := 238) rfl)) rfl
theorem wd_719 : (Jvm.Cond.methodLink "CodeVerifierModel" (107 : Nat) ({ cls := "CodeVerifierModel", name := "isLike", desc := "(II)Z" } : Jvm.MethodName)) ∈ zT := zT_of (zt3 (List.mem_of_getElem? (i := 239) rfl)) rfl
theorem wd_721 : (Jvm.Cond.instanceMethod ({ cls := "CodeVerifierModel", name := "isLike", desc := "(II)Z" } : Jvm.MethodName)) ∈ zT := zT_of (zt4 (List.mem_of_getElem? (i := 1) rfl)) rfl
theorem wd_722 : (Jvm.Cond.code ({ cls := "CodeVerifierModel", name := "isLike", desc := "(II)Z" } : Jvm.MethodName) prog_11_method_13_code (5 : Nat) (Option.some Jvm.ClassFile.FieldType.boolean)) ∈ zT := zT_of (zt4 (List.mem_of_getElem? (i := 2) rfl)) rfl
theorem wd_723 : (Jvm.Cond.methodLink "CodeVerifierLaw" (40 : Nat) ({ cls := "CodeVerifierModel", name := "op", desc := "(IIII)I" } : Jvm.MethodName)) ∈ zT := zT_of (zt4 (List.mem_of_getElem? (i := 3) rfl)) rfl
theorem wd_724 : (Jvm.Cond.instanceMethod ({ cls := "CodeVerifierModel", name := "op", desc := "(IIII)I" } : Jvm.MethodName)) ∈ zT := zT_of (zt4 (List.mem_of_getElem? (i := 4) rfl)) rfl
theorem wd_725 : (Jvm.Cond.selects "CodeVerifierModel" ({ cls := "CodeVerifierModel", name := "op", desc := "(IIII)I" } : Jvm.MethodName) ({ cls := "CodeVerifierModel", name := "op", desc := "(IIII)I" } : Jvm.MethodName)) ∈ zT := zT_of (zt4 (List.mem_of_getElem? (i := 5) rfl)) rfl
theorem wd_726 : (Jvm.Cond.code ({ cls := "CodeVerifierModel", name := "op", desc := "(IIII)I" } : Jvm.MethodName) prog_11_method_16_code (6 : Nat) (Option.some Jvm.ClassFile.FieldType.int)) ∈ zT := zT_of (zt4 (List.mem_of_getElem? (i := 6) rfl)) rfl
theorem wd_727 : (Jvm.Cond.methodLink "CodeVerifierModel" (111 : Nat) ({ cls := "CodeVerifierModel", name := "isGood", desc := "(IIII)Z" } : Jvm.MethodName)) ∈ zT := zT_of (zt4 (List.mem_of_getElem? (i := 7) rfl)) rfl
theorem wd_729 : (Jvm.Cond.instanceMethod ({ cls := "CodeVerifierModel", name := "isGood", desc := "(IIII)Z" } : Jvm.MethodName)) ∈ zT := zT_of (zt4 (List.mem_of_getElem? (i := 9) rfl)) rfl
theorem wd_730 : (Jvm.Cond.code ({ cls := "CodeVerifierModel", name := "isGood", desc := "(IIII)Z" } : Jvm.MethodName) prog_11_method_15_code (5 : Nat) (Option.some Jvm.ClassFile.FieldType.boolean)) ∈ zT := zT_of (zt4 (List.mem_of_getElem? (i := 10) rfl)) rfl
theorem wd_731 : (Jvm.Cond.methodLink "CodeVerifierLaw" (45 : Nat) ({ cls := "CodeVerifierModel", name := "handler", desc := "(IIIII)I" } : Jvm.MethodName)) ∈ zT := zT_of (zt4 (List.mem_of_getElem? (i := 11) rfl)) rfl
theorem wd_732 : (Jvm.Cond.instanceMethod ({ cls := "CodeVerifierModel", name := "handler", desc := "(IIIII)I" } : Jvm.MethodName)) ∈ zT := zT_of (zt4 (List.mem_of_getElem? (i := 12) rfl)) rfl
theorem wd_733 : (Jvm.Cond.selects "CodeVerifierModel" ({ cls := "CodeVerifierModel", name := "handler", desc := "(IIIII)I" } : Jvm.MethodName) ({ cls := "CodeVerifierModel", name := "handler", desc := "(IIIII)I" } : Jvm.MethodName)) ∈ zT := zT_of (zt4 (List.mem_of_getElem? (i := 13) rfl)) rfl
theorem wd_734 : (Jvm.Cond.code ({ cls := "CodeVerifierModel", name := "handler", desc := "(IIIII)I" } : Jvm.MethodName) prog_11_method_17_code (7 : Nat) (Option.some Jvm.ClassFile.FieldType.int)) ∈ zT := zT_of (zt4 (List.mem_of_getElem? (i := 14) rfl)) rfl
theorem wd_735 : (Jvm.Cond.methodLink "CodeVerifierLaw" (49 : Nat) ({ cls := "CodeVerifierModel", name := "verify", desc := "(I)I" } : Jvm.MethodName)) ∈ zT := zT_of (zt4 (List.mem_of_getElem? (i := 15) rfl)) rfl
theorem wd_736 : (Jvm.Cond.instanceMethod ({ cls := "CodeVerifierModel", name := "verify", desc := "(I)I" } : Jvm.MethodName)) ∈ zT := zT_of (zt4 (List.mem_of_getElem? (i := 16) rfl)) rfl
theorem wd_737 : (Jvm.Cond.selects "CodeVerifierModel" ({ cls := "CodeVerifierModel", name := "verify", desc := "(I)I" } : Jvm.MethodName) ({ cls := "CodeVerifierModel", name := "verify", desc := "(I)I" } : Jvm.MethodName)) ∈ zT := zT_of (zt4 (List.mem_of_getElem? (i := 17) rfl)) rfl
theorem wd_738 : (Jvm.Cond.code ({ cls := "CodeVerifierModel", name := "verify", desc := "(I)I" } : Jvm.MethodName) prog_11_method_33_code (4 : Nat) (Option.some Jvm.ClassFile.FieldType.int)) ∈ zT := zT_of (zt4 (List.mem_of_getElem? (i := 18) rfl)) rfl
theorem wd_739 : (Jvm.Cond.methodLink "CodeVerifierModel" (177 : Nat) ({ cls := "CodeVerifierModel", name := "come", desc := "(II)Z" } : Jvm.MethodName)) ∈ zT := zT_of (zt4 (List.mem_of_getElem? (i := 19) rfl)) rfl
theorem wd_741 : (Jvm.Cond.instanceMethod ({ cls := "CodeVerifierModel", name := "come", desc := "(II)Z" } : Jvm.MethodName)) ∈ zT := zT_of (zt4 (List.mem_of_getElem? (i := 21) rfl)) rfl
theorem wd_742 : (Jvm.Cond.code ({ cls := "CodeVerifierModel", name := "come", desc := "(II)Z" } : Jvm.MethodName) prog_11_method_20_code (7 : Nat) (Option.some Jvm.ClassFile.FieldType.boolean)) ∈ zT := zT_of (zt4 (List.mem_of_getElem? (i := 22) rfl)) rfl
theorem wd_743 : (Jvm.Cond.methodLink "CodeVerifierModel" (130 : Nat) ({ cls := "CodeVerifierModel", name := "meet", desc := "(II)I" } : Jvm.MethodName)) ∈ zT := zT_of (zt4 (List.mem_of_getElem? (i := 23) rfl)) rfl
theorem wd_745 : (Jvm.Cond.instanceMethod ({ cls := "CodeVerifierModel", name := "meet", desc := "(II)I" } : Jvm.MethodName)) ∈ zT := zT_of (zt4 (List.mem_of_getElem? (i := 25) rfl)) rfl
theorem wd_746 : (Jvm.Cond.code ({ cls := "CodeVerifierModel", name := "meet", desc := "(II)I" } : Jvm.MethodName) prog_11_method_19_code (4 : Nat) (Option.some Jvm.ClassFile.FieldType.int)) ∈ zT := zT_of (zt4 (List.mem_of_getElem? (i := 26) rfl)) rfl
theorem wd_747 : (Jvm.Cond.methodLink "CodeVerifierModel" (115 : Nat) ({ cls := "CodeVerifierModel", name := "isReference", desc := "(I)Z" } : Jvm.MethodName)) ∈ zT := zT_of (zt4 (List.mem_of_getElem? (i := 27) rfl)) rfl
theorem wd_748 : (Jvm.Cond.static ({ cls := "CodeVerifierModel", name := "isReference", desc := "(I)Z" } : Jvm.MethodName)) ∈ zT := zT_of (zt4 (List.mem_of_getElem? (i := 28) rfl)) rfl
theorem wd_749 : (Jvm.Cond.code ({ cls := "CodeVerifierModel", name := "isReference", desc := "(I)Z" } : Jvm.MethodName) prog_11_method_7_code (1 : Nat) (Option.some Jvm.ClassFile.FieldType.boolean)) ∈ zT := zT_of (zt4 (List.mem_of_getElem? (i := 29) rfl)) rfl
theorem wd_750 : (Jvm.Cond.methodLink "CodeVerifierModel" (118 : Nat) ({ cls := "CodeVerifierModel", name := "isSome", desc := "(I)Z" } : Jvm.MethodName)) ∈ zT := zT_of (zt4 (List.mem_of_getElem? (i := 30) rfl)) rfl
theorem wd_751 : (Jvm.Cond.static ({ cls := "CodeVerifierModel", name := "isSome", desc := "(I)Z" } : Jvm.MethodName)) ∈ zT := zT_of (zt4 (List.mem_of_getElem? (i := 31) rfl)) rfl
theorem wd_752 : (Jvm.Cond.code ({ cls := "CodeVerifierModel", name := "isSome", desc := "(I)Z" } : Jvm.MethodName) prog_11_method_6_code (1 : Nat) (Option.some Jvm.ClassFile.FieldType.boolean)) ∈ zT := zT_of (zt4 (List.mem_of_getElem? (i := 32) rfl)) rfl
theorem wd_753 : (Jvm.Cond.methodLink "CodeVerifierModel" (121 : Nat) ({ cls := "CodeVerifierModel", name := "isUnder", desc := "(II)Z" } : Jvm.MethodName)) ∈ zT := zT_of (zt4 (List.mem_of_getElem? (i := 33) rfl)) rfl
theorem wd_755 : (Jvm.Cond.instanceMethod ({ cls := "CodeVerifierModel", name := "isUnder", desc := "(II)Z" } : Jvm.MethodName)) ∈ zT := zT_of (zt4 (List.mem_of_getElem? (i := 35) rfl)) rfl
theorem wd_756 : (Jvm.Cond.code ({ cls := "CodeVerifierModel", name := "isUnder", desc := "(II)Z" } : Jvm.MethodName) prog_11_method_8_code (4 : Nat) (Option.some Jvm.ClassFile.FieldType.boolean)) ∈ zT := zT_of (zt4 (List.mem_of_getElem? (i := 36) rfl)) rfl
theorem wd_757 : (Jvm.Cond.methodLink "CodeVerifierModel" (186 : Nat) ({ cls := "CodeVerifierModel", name := "step", desc := "(II)Z" } : Jvm.MethodName)) ∈ zT := zT_of (zt4 (List.mem_of_getElem? (i := 37) rfl)) rfl
theorem wd_759 : (Jvm.Cond.instanceMethod ({ cls := "CodeVerifierModel", name := "step", desc := "(II)Z" } : Jvm.MethodName)) ∈ zT := zT_of (zt4 (List.mem_of_getElem? (i := 39) rfl)) rfl
theorem wd_760 : (Jvm.Cond.code ({ cls := "CodeVerifierModel", name := "step", desc := "(II)Z" } : Jvm.MethodName) prog_11_method_32_code (7 : Nat) (Option.some Jvm.ClassFile.FieldType.boolean)) ∈ zT := zT_of (zt4 (List.mem_of_getElem? (i := 40) rfl)) rfl
theorem wd_761 : (Jvm.Cond.methodLink "CodeVerifierModel" (173 : Nat) ({ cls := "CodeVerifierModel", name := "takeUp", desc := "(II)V" } : Jvm.MethodName)) ∈ zT := zT_of (zt4 (List.mem_of_getElem? (i := 41) rfl)) rfl
theorem wd_763 : (Jvm.Cond.instanceMethod ({ cls := "CodeVerifierModel", name := "takeUp", desc := "(II)V" } : Jvm.MethodName)) ∈ zT := zT_of (zt4 (List.mem_of_getElem? (i := 43) rfl)) rfl
theorem wd_764 : (Jvm.Cond.code ({ cls := "CodeVerifierModel", name := "takeUp", desc := "(II)V" } : Jvm.MethodName) prog_11_method_21_code (5 : Nat) (Option.none : Option Jvm.ClassFile.FieldType)) ∈ zT := zT_of (zt4 (List.mem_of_getElem? (i := 44) rfl)) rfl
theorem wd_765 : (Jvm.Cond.methodLink "CodeVerifierModel" (147 : Nat) ({ cls := "CodeVerifierModel", name := "push", desc := "(I)Z" } : Jvm.MethodName)) ∈ zT := zT_of (zt4 (List.mem_of_getElem? (i := 45) rfl)) rfl
theorem wd_767 : (Jvm.Cond.instanceMethod ({ cls := "CodeVerifierModel", name := "push", desc := "(I)Z" } : Jvm.MethodName)) ∈ zT := zT_of (zt4 (List.mem_of_getElem? (i := 47) rfl)) rfl
theorem wd_768 : (Jvm.Cond.code ({ cls := "CodeVerifierModel", name := "push", desc := "(I)Z" } : Jvm.MethodName) prog_11_method_22_code (2 : Nat) (Option.some Jvm.ClassFile.FieldType.boolean)) ∈ zT := zT_of (zt4 (List.mem_of_getElem? (i := 48) rfl)) rfl
theorem wd_769 : (Jvm.Cond.methodLink "CodeVerifierModel" (180 : Nat) ({ cls := "CodeVerifierModel", name := "fits", desc := "(IIII)Z" } : Jvm.MethodName)) ∈ zT := zT_of (zt4 (List.mem_of_getElem? (i := 49) rfl)) rfl
theorem wd_771 : (Jvm.Cond.instanceMethod ({ cls := "CodeVerifierModel", name := "fits", desc := "(IIII)Z" } : Jvm.MethodName)) ∈ zT := zT_of (zt4 (List.mem_of_getElem? (i := 51) rfl)) rfl
theorem wd_772 : (Jvm.Cond.code ({ cls := "CodeVerifierModel", name := "fits", desc := "(IIII)Z" } : Jvm.MethodName) prog_11_method_31_code (6 : Nat) (Option.some Jvm.ClassFile.FieldType.boolean)) ∈ zT := zT_of (zt4 (List.mem_of_getElem? (i := 52) rfl)) rfl
theorem wd_773 : (Jvm.Cond.methodLink "CodeVerifierModel" (156 : Nat) ({ cls := "CodeVerifierModel", name := "places", desc := "(III)Z" } : Jvm.MethodName)) ∈ zT := zT_of (zt4 (List.mem_of_getElem? (i := 53) rfl)) rfl
theorem wd_775 : (Jvm.Cond.instanceMethod ({ cls := "CodeVerifierModel", name := "places", desc := "(III)Z" } : Jvm.MethodName)) ∈ zT := zT_of (zt4 (List.mem_of_getElem? (i := 55) rfl)) rfl
theorem wd_776 : (Jvm.Cond.code ({ cls := "CodeVerifierModel", name := "places", desc := "(III)Z" } : Jvm.MethodName) prog_11_method_30_code (6 : Nat) (Option.some Jvm.ClassFile.FieldType.boolean)) ∈ zT := zT_of (zt4 (List.mem_of_getElem? (i := 56) rfl)) rfl
theorem wd_777 : (Jvm.Cond.methodLink "CodeVerifierModel" (137 : Nat) ({ cls := "CodeVerifierModel", name := "pop", desc := "()I" } : Jvm.MethodName)) ∈ zT := zT_of (zt4 (List.mem_of_getElem? (i := 57) rfl)) rfl
theorem wd_779 : (Jvm.Cond.instanceMethod ({ cls := "CodeVerifierModel", name := "pop", desc := "()I" } : Jvm.MethodName)) ∈ zT := zT_of (zt4 (List.mem_of_getElem? (i := 59) rfl)) rfl
theorem wd_780 : (Jvm.Cond.code ({ cls := "CodeVerifierModel", name := "pop", desc := "()I" } : Jvm.MethodName) prog_11_method_23_code (1 : Nat) (Option.some Jvm.ClassFile.FieldType.int)) ∈ zT := zT_of (zt4 (List.mem_of_getElem? (i := 60) rfl)) rfl
theorem wd_781 : (Jvm.Cond.methodLink "CodeVerifierModel" (150 : Nat) ({ cls := "CodeVerifierModel", name := "ints", desc := "(I)Z" } : Jvm.MethodName)) ∈ zT := zT_of (zt4 (List.mem_of_getElem? (i := 61) rfl)) rfl
theorem wd_783 : (Jvm.Cond.instanceMethod ({ cls := "CodeVerifierModel", name := "ints", desc := "(I)Z" } : Jvm.MethodName)) ∈ zT := zT_of (zt4 (List.mem_of_getElem? (i := 63) rfl)) rfl
theorem wd_784 : (Jvm.Cond.code ({ cls := "CodeVerifierModel", name := "ints", desc := "(I)Z" } : Jvm.MethodName) prog_11_method_26_code (3 : Nat) (Option.some Jvm.ClassFile.FieldType.boolean)) ∈ zT := zT_of (zt4 (List.mem_of_getElem? (i := 64) rfl)) rfl
theorem wd_785 : (Jvm.Cond.methodLink "CodeVerifierModel" (160 : Nat) ({ cls := "CodeVerifierModel", name := "popReference", desc := "()Z" } : Jvm.MethodName)) ∈ zT := zT_of (zt4 (List.mem_of_getElem? (i := 65) rfl)) rfl
theorem wd_787 : (Jvm.Cond.instanceMethod ({ cls := "CodeVerifierModel", name := "popReference", desc := "()Z" } : Jvm.MethodName)) ∈ zT := zT_of (zt4 (List.mem_of_getElem? (i := 67) rfl)) rfl
theorem wd_788 : (Jvm.Cond.code ({ cls := "CodeVerifierModel", name := "popReference", desc := "()Z" } : Jvm.MethodName) prog_11_method_25_code (2 : Nat) (Option.some Jvm.ClassFile.FieldType.boolean)) ∈ zT := zT_of (zt4 (List.mem_of_getElem? (i := 68) rfl)) rfl
theorem wd_789 : (Jvm.Cond.methodLink "CodeVerifierModel" (144 : Nat) ({ cls := "CodeVerifierModel", name := "popInto", desc := "(I)Z" } : Jvm.MethodName)) ∈ zT := zT_of (zt4 (List.mem_of_getElem? (i := 69) rfl)) rfl
theorem wd_791 : (Jvm.Cond.instanceMethod ({ cls := "CodeVerifierModel", name := "popInto", desc := "(I)Z" } : Jvm.MethodName)) ∈ zT := zT_of (zt4 (List.mem_of_getElem? (i := 71) rfl)) rfl
theorem wd_792 : (Jvm.Cond.code ({ cls := "CodeVerifierModel", name := "popInto", desc := "(I)Z" } : Jvm.MethodName) prog_11_method_24_code (3 : Nat) (Option.some Jvm.ClassFile.FieldType.boolean)) ∈ zT := zT_of (zt4 (List.mem_of_getElem? (i := 72) rfl)) rfl
theorem wd_793 : (Jvm.Cond.methodLink "CodeVerifierModel" (141 : Nat) ({ cls := "CodeVerifierModel", name := "goes", desc := "(II)Z" } : Jvm.MethodName)) ∈ zT := zT_of (zt4 (List.mem_of_getElem? (i := 73) rfl)) rfl
theorem wd_795 : (Jvm.Cond.instanceMethod ({ cls := "CodeVerifierModel", name := "goes", desc := "(II)Z" } : Jvm.MethodName)) ∈ zT := zT_of (zt4 (List.mem_of_getElem? (i := 75) rfl)) rfl
theorem wd_796 : (Jvm.Cond.code ({ cls := "CodeVerifierModel", name := "goes", desc := "(II)Z" } : Jvm.MethodName) prog_11_method_18_code (3 : Nat) (Option.some Jvm.ClassFile.FieldType.boolean)) ∈ zT := zT_of (zt4 (List.mem_of_getElem? (i := 76) rfl)) rfl
theorem wd_797 : (Jvm.Cond.methodLink "CodeVerifierModel" (164 : Nat) ({ cls := "CodeVerifierModel", name := "parameters", desc := "(II)Z" } : Jvm.MethodName)) ∈ zT := zT_of (zt4 (List.mem_of_getElem? (i := 77) rfl)) rfl
theorem wd_799 : (Jvm.Cond.instanceMethod ({ cls := "CodeVerifierModel", name := "parameters", desc := "(II)Z" } : Jvm.MethodName)) ∈ zT := zT_of (zt4 (List.mem_of_getElem? (i := 79) rfl)) rfl
theorem wd_800 : (Jvm.Cond.code ({ cls := "CodeVerifierModel", name := "parameters", desc := "(II)Z" } : Jvm.MethodName) prog_11_method_27_code (4 : Nat) (Option.some Jvm.ClassFile.FieldType.boolean)) ∈ zT := zT_of (zt4 (List.mem_of_getElem? (i := 80) rfl)) rfl
theorem wd_801 : (Jvm.Cond.methodLink "CodeVerifierModel" (167 : Nat) ({ cls := "CodeVerifierModel", name := "given", desc := "(I)Z" } : Jvm.MethodName)) ∈ zT := zT_of (zt4 (List.mem_of_getElem? (i := 81) rfl)) rfl
theorem wd_803 : (Jvm.Cond.instanceMethod ({ cls := "CodeVerifierModel", name := "given", desc := "(I)Z" } : Jvm.MethodName)) ∈ zT := zT_of (zt4 (List.mem_of_getElem? (i := 83) rfl)) rfl
theorem wd_804 : (Jvm.Cond.code ({ cls := "CodeVerifierModel", name := "given", desc := "(I)Z" } : Jvm.MethodName) prog_11_method_28_code (2 : Nat) (Option.some Jvm.ClassFile.FieldType.boolean)) ∈ zT := zT_of (zt4 (List.mem_of_getElem? (i := 84) rfl)) rfl
theorem wd_805 : (Jvm.Cond.methodLink "CodeVerifierModel" (170 : Nat) ({ cls := "CodeVerifierModel", name := "rows", desc := "(II)Z" } : Jvm.MethodName)) ∈ zT := zT_of (zt4 (List.mem_of_getElem? (i := 85) rfl)) rfl
theorem wd_807 : (Jvm.Cond.instanceMethod ({ cls := "CodeVerifierModel", name := "rows", desc := "(II)Z" } : Jvm.MethodName)) ∈ zT := zT_of (zt4 (List.mem_of_getElem? (i := 87) rfl)) rfl
theorem wd_808 : (Jvm.Cond.code ({ cls := "CodeVerifierModel", name := "rows", desc := "(II)Z" } : Jvm.MethodName) prog_11_method_29_code (6 : Nat) (Option.some Jvm.ClassFile.FieldType.boolean)) ∈ zT := zT_of (zt4 (List.mem_of_getElem? (i := 88) rfl)) rfl
theorem wd_809 : (Jvm.Cond.methodLink "CodeVerifierModel" (153 : Nat) ({ cls := "CodeVerifierModel", name := "isRow", desc := "(I)Z" } : Jvm.MethodName)) ∈ zT := zT_of (zt4 (List.mem_of_getElem? (i := 89) rfl)) rfl
theorem wd_810 : (Jvm.Cond.static ({ cls := "CodeVerifierModel", name := "isRow", desc := "(I)Z" } : Jvm.MethodName)) ∈ zT := zT_of (zt4 (List.mem_of_getElem? (i := 90) rfl)) rfl
theorem wd_811 : (Jvm.Cond.code ({ cls := "CodeVerifierModel", name := "isRow", desc := "(I)Z" } : Jvm.MethodName) prog_11_method_5_code (1 : Nat) (Option.some Jvm.ClassFile.FieldType.boolean)) ∈ zT := zT_of (zt4 (List.mem_of_getElem? (i := 91) rfl)) rfl
theorem wd_812 : (Jvm.Cond.methodLink "CodeVerifierLaw" (53 : Nat) ({ cls := "CodeVerifierModel", name := "stands", desc := "(IIII)I" } : Jvm.MethodName)) ∈ zT := zT_of (zt4 (List.mem_of_getElem? (i := 92) rfl)) rfl
theorem wd_813 : (Jvm.Cond.instanceMethod ({ cls := "CodeVerifierModel", name := "stands", desc := "(IIII)I" } : Jvm.MethodName)) ∈ zT := zT_of (zt4 (List.mem_of_getElem? (i := 93) rfl)) rfl
theorem wd_814 : (Jvm.Cond.selects "CodeVerifierModel" ({ cls := "CodeVerifierModel", name := "stands", desc := "(IIII)I" } : Jvm.MethodName) ({ cls := "CodeVerifierModel", name := "stands", desc := "(IIII)I" } : Jvm.MethodName)) ∈ zT := zT_of (zt4 (List.mem_of_getElem? (i := 94) rfl)) rfl
theorem wd_815 : (Jvm.Cond.code ({ cls := "CodeVerifierModel", name := "stands", desc := "(IIII)I" } : Jvm.MethodName) prog_11_method_34_code (6 : Nat) (Option.some Jvm.ClassFile.FieldType.int)) ∈ zT := zT_of (zt4 (List.mem_of_getElem? (i := 95) rfl)) rfl
theorem wd_816 : (Jvm.Cond.methodLink "CodeVerifierLaw" (58 : Nat) ({ cls := "CodeVerifierModel", name := "looked", desc := "()I" } : Jvm.MethodName)) ∈ zT := zT_of (zt4 (List.mem_of_getElem? (i := 96) rfl)) rfl
theorem wd_817 : (Jvm.Cond.instanceMethod ({ cls := "CodeVerifierModel", name := "looked", desc := "()I" } : Jvm.MethodName)) ∈ zT := zT_of (zt4 (List.mem_of_getElem? (i := 97) rfl)) rfl
theorem wd_818 : (Jvm.Cond.selects "CodeVerifierModel" ({ cls := "CodeVerifierModel", name := "looked", desc := "()I" } : Jvm.MethodName) ({ cls := "CodeVerifierModel", name := "looked", desc := "()I" } : Jvm.MethodName)) ∈ zT := zT_of (zt4 (List.mem_of_getElem? (i := 98) rfl)) rfl
theorem wd_819 : (Jvm.Cond.code ({ cls := "CodeVerifierModel", name := "looked", desc := "()I" } : Jvm.MethodName) prog_11_method_35_code (1 : Nat) (Option.some Jvm.ClassFile.FieldType.int)) ∈ zT := zT_of (zt4 (List.mem_of_getElem? (i := 99) rfl)) rfl
theorem ws_0 : Cond.selects "CodeVerifier$Told" ({ cls := "CodeVerifier$Told", name := "kindOf", desc := "(I)LCodeVerifier$Kind;" } : MethodName) ({ cls := "CodeVerifier$Told", name := "kindOf", desc := "(I)LCodeVerifier$Kind;" } : MethodName) ∈ zT := zT_p (q := (({ cls := "CodeVerifier$Told", name := "kindOf", desc := "(I)LCodeVerifier$Kind;" } : MethodName), _)) (List.mem_append_left _ (List.mem_of_getElem? (i := 0) rfl)) rfl
theorem ws_1 : Cond.selects "CodeVerifier$Walk" ({ cls := "CodeVerifier$Walk", name := "begin", desc := "(LCodeVerifier$Method;)V" } : MethodName) ({ cls := "CodeVerifier$Walk", name := "begin", desc := "(LCodeVerifier$Method;)V" } : MethodName) ∈ zT := zT_p (q := (({ cls := "CodeVerifier$Walk", name := "begin", desc := "(LCodeVerifier$Method;)V" } : MethodName), _)) (List.mem_append_left _ (List.mem_of_getElem? (i := 1) rfl)) rfl
theorem ws_2 : Cond.selects "CodeVerifier$Walk" ({ cls := "CodeVerifier$Walk", name := "come", desc := "(LCodeVerifier$Method;II)V" } : MethodName) ({ cls := "CodeVerifier$Walk", name := "come", desc := "(LCodeVerifier$Method;II)V" } : MethodName) ∈ zT := zT_p (q := (({ cls := "CodeVerifier$Walk", name := "come", desc := "(LCodeVerifier$Method;II)V" } : MethodName), _)) (List.mem_append_left _ (List.mem_of_getElem? (i := 2) rfl)) rfl
theorem ws_3 : Cond.selects "CodeVerifier$Walk" ({ cls := "CodeVerifier$Walk", name := "mark", desc := "(LCodeVerifier$Instruction;I)V" } : MethodName) ({ cls := "CodeVerifier$Walk", name := "mark", desc := "(LCodeVerifier$Instruction;I)V" } : MethodName) ∈ zT := zT_p (q := (({ cls := "CodeVerifier$Walk", name := "mark", desc := "(LCodeVerifier$Instruction;I)V" } : MethodName), _)) (List.mem_append_left _ (List.mem_of_getElem? (i := 3) rfl)) rfl
theorem ws_4 : Cond.selects "CodeVerifier$Walk" ({ cls := "CodeVerifier$Walk", name := "leastMarked", desc := "(LCodeVerifier$Method;)I" } : MethodName) ({ cls := "CodeVerifier$Walk", name := "leastMarked", desc := "(LCodeVerifier$Method;)I" } : MethodName) ∈ zT := zT_p (q := (({ cls := "CodeVerifier$Walk", name := "leastMarked", desc := "(LCodeVerifier$Method;)I" } : MethodName), _)) (List.mem_append_left _ (List.mem_of_getElem? (i := 4) rfl)) rfl
theorem ws_5 : Cond.selects "CodeVerifier$Walk" ({ cls := "CodeVerifier$Walk", name := "lookAt", desc := "(LCodeVerifier$Method;I)V" } : MethodName) ({ cls := "CodeVerifier$Walk", name := "lookAt", desc := "(LCodeVerifier$Method;I)V" } : MethodName) ∈ zT := zT_p (q := (({ cls := "CodeVerifier$Walk", name := "lookAt", desc := "(LCodeVerifier$Method;I)V" } : MethodName), _)) (List.mem_append_left _ (List.mem_of_getElem? (i := 5) rfl)) rfl
theorem ws_6 : Cond.selects "CodeVerifier$Walk" ({ cls := "CodeVerifier$Walk", name := "comeToHandlers", desc := "(LCodeVerifier$Method;ILCodeVerifier$Instruction;)V" } : MethodName) ({ cls := "CodeVerifier$Walk", name := "comeToHandlers", desc := "(LCodeVerifier$Method;ILCodeVerifier$Instruction;)V" } : MethodName) ∈ zT := zT_p (q := (({ cls := "CodeVerifier$Walk", name := "comeToHandlers", desc := "(LCodeVerifier$Method;ILCodeVerifier$Instruction;)V" } : MethodName), _)) (List.mem_append_left _ (List.mem_of_getElem? (i := 6) rfl)) rfl
theorem ws_7 : Cond.selects "CodeVerifier$Step" ({ cls := "CodeVerifier$Step", name := "move", desc := "(LCodeVerifier$Instruction;)V" } : MethodName) ({ cls := "CodeVerifier$Step", name := "move", desc := "(LCodeVerifier$Instruction;)V" } : MethodName) ∈ zT := zT_p (q := (({ cls := "CodeVerifier$Step", name := "move", desc := "(LCodeVerifier$Instruction;)V" } : MethodName), _)) (List.mem_append_left _ (List.mem_of_getElem? (i := 7) rfl)) rfl
theorem ws_8 : Cond.selects "CodeVerifier$Step" ({ cls := "CodeVerifier$Step", name := "put", desc := "(I)V" } : MethodName) ({ cls := "CodeVerifier$Step", name := "put", desc := "(I)V" } : MethodName) ∈ zT := zT_p (q := (({ cls := "CodeVerifier$Step", name := "put", desc := "(I)V" } : MethodName), _)) (List.mem_append_left _ (List.mem_of_getElem? (i := 8) rfl)) rfl
theorem ws_9 : Cond.selects "CodeVerifier$Step" ({ cls := "CodeVerifier$Step", name := "need", desc := "(Z)V" } : MethodName) ({ cls := "CodeVerifier$Step", name := "need", desc := "(Z)V" } : MethodName) ∈ zT := zT_p (q := (({ cls := "CodeVerifier$Step", name := "need", desc := "(Z)V" } : MethodName), _)) (List.mem_append_left _ (List.mem_of_getElem? (i := 9) rfl)) rfl
theorem ws_10 : Cond.selects "CodeVerifier$Step" ({ cls := "CodeVerifier$Step", name := "load", desc := "(I)V" } : MethodName) ({ cls := "CodeVerifier$Step", name := "load", desc := "(I)V" } : MethodName) ∈ zT := zT_p (q := (({ cls := "CodeVerifier$Step", name := "load", desc := "(I)V" } : MethodName), _)) (List.mem_append_left _ (List.mem_of_getElem? (i := 10) rfl)) rfl
theorem ws_11 : Cond.selects "CodeVerifier$Step" ({ cls := "CodeVerifier$Step", name := "take", desc := "()I" } : MethodName) ({ cls := "CodeVerifier$Step", name := "take", desc := "()I" } : MethodName) ∈ zT := zT_p (q := (({ cls := "CodeVerifier$Step", name := "take", desc := "()I" } : MethodName), _)) (List.mem_append_left _ (List.mem_of_getElem? (i := 11) rfl)) rfl
theorem ws_12 : Cond.selects "CodeVerifier$Step" ({ cls := "CodeVerifier$Step", name := "duplicate", desc := "()V" } : MethodName) ({ cls := "CodeVerifier$Step", name := "duplicate", desc := "()V" } : MethodName) ∈ zT := zT_p (q := (({ cls := "CodeVerifier$Step", name := "duplicate", desc := "()V" } : MethodName), _)) (List.mem_append_left _ (List.mem_of_getElem? (i := 12) rfl)) rfl
theorem ws_13 : Cond.selects "CodeVerifier$Step" ({ cls := "CodeVerifier$Step", name := "swap", desc := "()V" } : MethodName) ({ cls := "CodeVerifier$Step", name := "swap", desc := "()V" } : MethodName) ∈ zT := zT_p (q := (({ cls := "CodeVerifier$Step", name := "swap", desc := "()V" } : MethodName), _)) (List.mem_append_left _ (List.mem_of_getElem? (i := 13) rfl)) rfl
theorem ws_14 : Cond.selects "CodeVerifier$Step" ({ cls := "CodeVerifier$Step", name := "reckon", desc := "(I)V" } : MethodName) ({ cls := "CodeVerifier$Step", name := "reckon", desc := "(I)V" } : MethodName) ∈ zT := zT_p (q := (({ cls := "CodeVerifier$Step", name := "reckon", desc := "(I)V" } : MethodName), _)) (List.mem_append_left _ (List.mem_of_getElem? (i := 14) rfl)) rfl
theorem ws_15 : Cond.selects "CodeVerifier$Step" ({ cls := "CodeVerifier$Step", name := "takeInt", desc := "()V" } : MethodName) ({ cls := "CodeVerifier$Step", name := "takeInt", desc := "()V" } : MethodName) ∈ zT := zT_p (q := (({ cls := "CodeVerifier$Step", name := "takeInt", desc := "()V" } : MethodName), _)) (List.mem_append_left _ (List.mem_of_getElem? (i := 15) rfl)) rfl
theorem ws_16 : Cond.selects "CodeVerifier$Step" ({ cls := "CodeVerifier$Step", name := "branch", desc := "(I)V" } : MethodName) ({ cls := "CodeVerifier$Step", name := "branch", desc := "(I)V" } : MethodName) ∈ zT := zT_p (q := (({ cls := "CodeVerifier$Step", name := "branch", desc := "(I)V" } : MethodName), _)) (List.mem_append_right _ (List.mem_append_left _ (List.mem_of_getElem? (i := 0) rfl))) rfl
theorem ws_17 : Cond.selects "CodeVerifier$Step" ({ cls := "CodeVerifier$Step", name := "takeReference", desc := "()V" } : MethodName) ({ cls := "CodeVerifier$Step", name := "takeReference", desc := "()V" } : MethodName) ∈ zT := zT_p (q := (({ cls := "CodeVerifier$Step", name := "takeReference", desc := "()V" } : MethodName), _)) (List.mem_append_right _ (List.mem_append_left _ (List.mem_of_getElem? (i := 1) rfl))) rfl
theorem ws_18 : Cond.selects "CodeVerifier$Step" ({ cls := "CodeVerifier$Step", name := "useObject", desc := "(LCodeVerifier$Instruction;)V" } : MethodName) ({ cls := "CodeVerifier$Step", name := "useObject", desc := "(LCodeVerifier$Instruction;)V" } : MethodName) ∈ zT := zT_p (q := (({ cls := "CodeVerifier$Step", name := "useObject", desc := "(LCodeVerifier$Instruction;)V" } : MethodName), _)) (List.mem_append_right _ (List.mem_append_left _ (List.mem_of_getElem? (i := 2) rfl))) rfl
theorem ws_19 : Cond.selects "CodeVerifier$Step" ({ cls := "CodeVerifier$Step", name := "takeInto", desc := "(I)V" } : MethodName) ({ cls := "CodeVerifier$Step", name := "takeInto", desc := "(I)V" } : MethodName) ∈ zT := zT_p (q := (({ cls := "CodeVerifier$Step", name := "takeInto", desc := "(I)V" } : MethodName), _)) (List.mem_append_right _ (List.mem_append_left _ (List.mem_of_getElem? (i := 3) rfl))) rfl
theorem ws_20 : Cond.selects "CodeVerifier$Step" ({ cls := "CodeVerifier$Step", name := "useRow", desc := "(LCodeVerifier$Instruction;)V" } : MethodName) ({ cls := "CodeVerifier$Step", name := "useRow", desc := "(LCodeVerifier$Instruction;)V" } : MethodName) ∈ zT := zT_p (q := (({ cls := "CodeVerifier$Step", name := "useRow", desc := "(LCodeVerifier$Instruction;)V" } : MethodName), _)) (List.mem_append_right _ (List.mem_append_left _ (List.mem_of_getElem? (i := 4) rfl))) rfl
theorem ws_21 : Cond.selects "CodeVerifier$Step" ({ cls := "CodeVerifier$Step", name := "takeRow", desc := "()I" } : MethodName) ({ cls := "CodeVerifier$Step", name := "takeRow", desc := "()I" } : MethodName) ∈ zT := zT_p (q := (({ cls := "CodeVerifier$Step", name := "takeRow", desc := "()I" } : MethodName), _)) (List.mem_append_right _ (List.mem_append_left _ (List.mem_of_getElem? (i := 5) rfl))) rfl
theorem ws_22 : Cond.selects "CodeVerifier$Step" ({ cls := "CodeVerifier$Step", name := "invoke", desc := "(LCodeVerifier$Instruction;)V" } : MethodName) ({ cls := "CodeVerifier$Step", name := "invoke", desc := "(LCodeVerifier$Instruction;)V" } : MethodName) ∈ zT := zT_p (q := (({ cls := "CodeVerifier$Step", name := "invoke", desc := "(LCodeVerifier$Instruction;)V" } : MethodName), _)) (List.mem_append_right _ (List.mem_append_left _ (List.mem_of_getElem? (i := 6) rfl))) rfl
theorem ws_23 : Cond.selects "CodeVerifier$Step" ({ cls := "CodeVerifier$Step", name := "leaveOrTalk", desc := "(LCodeVerifier$Method;I)V" } : MethodName) ({ cls := "CodeVerifier$Step", name := "leaveOrTalk", desc := "(LCodeVerifier$Method;I)V" } : MethodName) ∈ zT := zT_p (q := (({ cls := "CodeVerifier$Step", name := "leaveOrTalk", desc := "(LCodeVerifier$Method;I)V" } : MethodName), _)) (List.mem_append_right _ (List.mem_append_left _ (List.mem_of_getElem? (i := 7) rfl))) rfl
theorem ws_24 : Cond.selects "CodeVerifierModel" ({ cls := "CodeVerifierModel", name := "isClass", desc := "(I)Z" } : MethodName) ({ cls := "CodeVerifierModel", name := "isClass", desc := "(I)Z" } : MethodName) ∈ zT := zT_p (q := (({ cls := "CodeVerifierModel", name := "isClass", desc := "(I)Z" } : MethodName), _)) (List.mem_append_right _ (List.mem_append_left _ (List.mem_of_getElem? (i := 8) rfl))) rfl
theorem ws_25 : Cond.selects "CodeVerifierModel" ({ cls := "CodeVerifierModel", name := "isType", desc := "(I)Z" } : MethodName) ({ cls := "CodeVerifierModel", name := "isType", desc := "(I)Z" } : MethodName) ∈ zT := zT_p (q := (({ cls := "CodeVerifierModel", name := "isType", desc := "(I)Z" } : MethodName), _)) (List.mem_append_right _ (List.mem_append_left _ (List.mem_of_getElem? (i := 9) rfl))) rfl
theorem ws_26 : Cond.selects "CodeVerifierModel" ({ cls := "CodeVerifierModel", name := "isMethod", desc := "(I)Z" } : MethodName) ({ cls := "CodeVerifierModel", name := "isMethod", desc := "(I)Z" } : MethodName) ∈ zT := zT_p (q := (({ cls := "CodeVerifierModel", name := "isMethod", desc := "(I)Z" } : MethodName), _)) (List.mem_append_right _ (List.mem_append_left _ (List.mem_of_getElem? (i := 10) rfl))) rfl
theorem ws_27 : Cond.selects "CodeVerifierModel" ({ cls := "CodeVerifierModel", name := "isLike", desc := "(II)Z" } : MethodName) ({ cls := "CodeVerifierModel", name := "isLike", desc := "(II)Z" } : MethodName) ∈ zT := zT_p (q := (({ cls := "CodeVerifierModel", name := "isLike", desc := "(II)Z" } : MethodName), _)) (List.mem_append_right _ (List.mem_append_left _ (List.mem_of_getElem? (i := 11) rfl))) rfl
theorem ws_28 : Cond.selects "CodeVerifierModel" ({ cls := "CodeVerifierModel", name := "isGood", desc := "(IIII)Z" } : MethodName) ({ cls := "CodeVerifierModel", name := "isGood", desc := "(IIII)Z" } : MethodName) ∈ zT := zT_p (q := (({ cls := "CodeVerifierModel", name := "isGood", desc := "(IIII)Z" } : MethodName), _)) (List.mem_append_right _ (List.mem_append_left _ (List.mem_of_getElem? (i := 12) rfl))) rfl
theorem ws_29 : Cond.selects "CodeVerifierModel" ({ cls := "CodeVerifierModel", name := "come", desc := "(II)Z" } : MethodName) ({ cls := "CodeVerifierModel", name := "come", desc := "(II)Z" } : MethodName) ∈ zT := zT_p (q := (({ cls := "CodeVerifierModel", name := "come", desc := "(II)Z" } : MethodName), _)) (List.mem_append_right _ (List.mem_append_left _ (List.mem_of_getElem? (i := 13) rfl))) rfl
theorem ws_30 : Cond.selects "CodeVerifierModel" ({ cls := "CodeVerifierModel", name := "meet", desc := "(II)I" } : MethodName) ({ cls := "CodeVerifierModel", name := "meet", desc := "(II)I" } : MethodName) ∈ zT := zT_p (q := (({ cls := "CodeVerifierModel", name := "meet", desc := "(II)I" } : MethodName), _)) (List.mem_append_right _ (List.mem_append_left _ (List.mem_of_getElem? (i := 14) rfl))) rfl
theorem ws_31 : Cond.selects "CodeVerifierModel" ({ cls := "CodeVerifierModel", name := "isUnder", desc := "(II)Z" } : MethodName) ({ cls := "CodeVerifierModel", name := "isUnder", desc := "(II)Z" } : MethodName) ∈ zT := zT_p (q := (({ cls := "CodeVerifierModel", name := "isUnder", desc := "(II)Z" } : MethodName), _)) (List.mem_append_right _ (List.mem_append_left _ (List.mem_of_getElem? (i := 15) rfl))) rfl
theorem ws_32 : Cond.selects "CodeVerifierModel" ({ cls := "CodeVerifierModel", name := "step", desc := "(II)Z" } : MethodName) ({ cls := "CodeVerifierModel", name := "step", desc := "(II)Z" } : MethodName) ∈ zT := zT_p (q := (({ cls := "CodeVerifierModel", name := "step", desc := "(II)Z" } : MethodName), _)) (List.mem_append_right _ (List.mem_append_right _ (List.mem_of_getElem? (i := 0) rfl))) rfl
theorem ws_33 : Cond.selects "CodeVerifierModel" ({ cls := "CodeVerifierModel", name := "takeUp", desc := "(II)V" } : MethodName) ({ cls := "CodeVerifierModel", name := "takeUp", desc := "(II)V" } : MethodName) ∈ zT := zT_p (q := (({ cls := "CodeVerifierModel", name := "takeUp", desc := "(II)V" } : MethodName), _)) (List.mem_append_right _ (List.mem_append_right _ (List.mem_of_getElem? (i := 1) rfl))) rfl
theorem ws_34 : Cond.selects "CodeVerifierModel" ({ cls := "CodeVerifierModel", name := "push", desc := "(I)Z" } : MethodName) ({ cls := "CodeVerifierModel", name := "push", desc := "(I)Z" } : MethodName) ∈ zT := zT_p (q := (({ cls := "CodeVerifierModel", name := "push", desc := "(I)Z" } : MethodName), _)) (List.mem_append_right _ (List.mem_append_right _ (List.mem_of_getElem? (i := 2) rfl))) rfl
theorem ws_35 : Cond.selects "CodeVerifierModel" ({ cls := "CodeVerifierModel", name := "fits", desc := "(IIII)Z" } : MethodName) ({ cls := "CodeVerifierModel", name := "fits", desc := "(IIII)Z" } : MethodName) ∈ zT := zT_p (q := (({ cls := "CodeVerifierModel", name := "fits", desc := "(IIII)Z" } : MethodName), _)) (List.mem_append_right _ (List.mem_append_right _ (List.mem_of_getElem? (i := 3) rfl))) rfl
theorem ws_36 : Cond.selects "CodeVerifierModel" ({ cls := "CodeVerifierModel", name := "places", desc := "(III)Z" } : MethodName) ({ cls := "CodeVerifierModel", name := "places", desc := "(III)Z" } : MethodName) ∈ zT := zT_p (q := (({ cls := "CodeVerifierModel", name := "places", desc := "(III)Z" } : MethodName), _)) (List.mem_append_right _ (List.mem_append_right _ (List.mem_of_getElem? (i := 4) rfl))) rfl
theorem ws_37 : Cond.selects "CodeVerifierModel" ({ cls := "CodeVerifierModel", name := "pop", desc := "()I" } : MethodName) ({ cls := "CodeVerifierModel", name := "pop", desc := "()I" } : MethodName) ∈ zT := zT_p (q := (({ cls := "CodeVerifierModel", name := "pop", desc := "()I" } : MethodName), _)) (List.mem_append_right _ (List.mem_append_right _ (List.mem_of_getElem? (i := 5) rfl))) rfl
theorem ws_38 : Cond.selects "CodeVerifierModel" ({ cls := "CodeVerifierModel", name := "ints", desc := "(I)Z" } : MethodName) ({ cls := "CodeVerifierModel", name := "ints", desc := "(I)Z" } : MethodName) ∈ zT := zT_p (q := (({ cls := "CodeVerifierModel", name := "ints", desc := "(I)Z" } : MethodName), _)) (List.mem_append_right _ (List.mem_append_right _ (List.mem_of_getElem? (i := 6) rfl))) rfl
theorem ws_39 : Cond.selects "CodeVerifierModel" ({ cls := "CodeVerifierModel", name := "popReference", desc := "()Z" } : MethodName) ({ cls := "CodeVerifierModel", name := "popReference", desc := "()Z" } : MethodName) ∈ zT := zT_p (q := (({ cls := "CodeVerifierModel", name := "popReference", desc := "()Z" } : MethodName), _)) (List.mem_append_right _ (List.mem_append_right _ (List.mem_of_getElem? (i := 7) rfl))) rfl
theorem ws_40 : Cond.selects "CodeVerifierModel" ({ cls := "CodeVerifierModel", name := "popInto", desc := "(I)Z" } : MethodName) ({ cls := "CodeVerifierModel", name := "popInto", desc := "(I)Z" } : MethodName) ∈ zT := zT_p (q := (({ cls := "CodeVerifierModel", name := "popInto", desc := "(I)Z" } : MethodName), _)) (List.mem_append_right _ (List.mem_append_right _ (List.mem_of_getElem? (i := 8) rfl))) rfl
theorem ws_41 : Cond.selects "CodeVerifierModel" ({ cls := "CodeVerifierModel", name := "goes", desc := "(II)Z" } : MethodName) ({ cls := "CodeVerifierModel", name := "goes", desc := "(II)Z" } : MethodName) ∈ zT := zT_p (q := (({ cls := "CodeVerifierModel", name := "goes", desc := "(II)Z" } : MethodName), _)) (List.mem_append_right _ (List.mem_append_right _ (List.mem_of_getElem? (i := 9) rfl))) rfl
theorem ws_42 : Cond.selects "CodeVerifierModel" ({ cls := "CodeVerifierModel", name := "parameters", desc := "(II)Z" } : MethodName) ({ cls := "CodeVerifierModel", name := "parameters", desc := "(II)Z" } : MethodName) ∈ zT := zT_p (q := (({ cls := "CodeVerifierModel", name := "parameters", desc := "(II)Z" } : MethodName), _)) (List.mem_append_right _ (List.mem_append_right _ (List.mem_of_getElem? (i := 10) rfl))) rfl
theorem ws_43 : Cond.selects "CodeVerifierModel" ({ cls := "CodeVerifierModel", name := "given", desc := "(I)Z" } : MethodName) ({ cls := "CodeVerifierModel", name := "given", desc := "(I)Z" } : MethodName) ∈ zT := zT_p (q := (({ cls := "CodeVerifierModel", name := "given", desc := "(I)Z" } : MethodName), _)) (List.mem_append_right _ (List.mem_append_right _ (List.mem_of_getElem? (i := 11) rfl))) rfl
theorem ws_44 : Cond.selects "CodeVerifierModel" ({ cls := "CodeVerifierModel", name := "rows", desc := "(II)Z" } : MethodName) ({ cls := "CodeVerifierModel", name := "rows", desc := "(II)Z" } : MethodName) ∈ zT := zT_p (q := (({ cls := "CodeVerifierModel", name := "rows", desc := "(II)Z" } : MethodName), _)) (List.mem_append_right _ (List.mem_append_right _ (List.mem_of_getElem? (i := 12) rfl))) rfl
end
section
theorem dX0_init_0 : decode cX0_init 0 = .ok (.aload_n 0, 1) := by decide +kernel
theorem dX0_init_1 : decode cX0_init 1 = .ok (.invokespecial 1, 3) := by decide +kernel
theorem dX0_init_4 : decode cX0_init 4 = .ok (.aload_n 0, 1) := by decide +kernel
theorem dX0_init_5 : decode cX0_init 5 = .ok (.iload_n 1, 1) := by decide +kernel
theorem dX0_init_6 : decode cX0_init 6 = .ok (.putfield 7, 3) := by decide +kernel
theorem dX0_init_9 : decode cX0_init 9 = .ok (.aload_n 0, 1) := by decide +kernel
theorem dX0_init_10 : decode cX0_init 10 = .ok (.iload_n 2, 1) := by decide +kernel
theorem dX0_init_11 : decode cX0_init 11 = .ok (.putfield 13, 3) := by decide +kernel
theorem dX0_init_14 : decode cX0_init 14 = .ok (.aload_n 0, 1) := by decide +kernel
theorem dX0_init_15 : decode cX0_init 15 = .ok (.iload_n 3, 1) := by decide +kernel
theorem dX0_init_16 : decode cX0_init 16 = .ok (.putfield 16, 3) := by decide +kernel
theorem dX0_init_19 : decode cX0_init 19 = .ok (.aload_n 0, 1) := by decide +kernel
theorem dX0_init_20 : decode cX0_init 20 = .ok (.iload 4, 2) := by decide +kernel
theorem dX0_init_22 : decode cX0_init 22 = .ok (.putfield 19, 3) := by decide +kernel
theorem dX0_init_25 : decode cX0_init 25 = .ok (.return_, 1) := by decide +kernel
theorem dX0_covers_0 : decode cX0_covers 0 = .ok (.aload_n 0, 1) := by decide +kernel
theorem dX0_covers_1 : decode cX0_covers 1 = .ok (.getfield 7, 3) := by decide +kernel
theorem dX0_covers_4 : decode cX0_covers 4 = .ok (.iload_n 1, 1) := by decide +kernel
theorem dX0_covers_5 : decode cX0_covers 5 = .ok (.if_icmp .gt 15, 3) := by decide +kernel
theorem dX0_covers_8 : decode cX0_covers 8 = .ok (.iload_n 1, 1) := by decide +kernel
theorem dX0_covers_9 : decode cX0_covers 9 = .ok (.aload_n 0, 1) := by decide +kernel
theorem dX0_covers_10 : decode cX0_covers 10 = .ok (.getfield 13, 3) := by decide +kernel
theorem dX0_covers_13 : decode cX0_covers 13 = .ok (.if_icmp .ge 7, 3) := by decide +kernel
theorem dX0_covers_16 : decode cX0_covers 16 = .ok (.iconst 1, 1) := by decide +kernel
theorem dX0_covers_17 : decode cX0_covers 17 = .ok (.goto 4, 3) := by decide +kernel
theorem dX0_covers_20 : decode cX0_covers 20 = .ok (.iconst 0, 1) := by decide +kernel
theorem dX0_covers_21 : decode cX0_covers 21 = .ok (.ireturn, 1) := by decide +kernel
theorem dX1_init_0 : decode cX1_init 0 = .ok (.aload_n 0, 1) := by decide +kernel
theorem dX1_init_1 : decode cX1_init 1 = .ok (.invokespecial 3, 3) := by decide +kernel
theorem dX1_init_4 : decode cX1_init 4 = .ok (.aload_n 0, 1) := by decide +kernel
theorem dX1_init_5 : decode cX1_init 5 = .ok (.new 9, 3) := by decide +kernel
theorem dX1_init_8 : decode cX1_init 8 = .ok (.dup, 1) := by decide +kernel
theorem dX1_init_9 : decode cX1_init 9 = .ok (.invokespecial 11, 3) := by decide +kernel
theorem dX1_init_12 : decode cX1_init 12 = .ok (.putfield 12, 3) := by decide +kernel
theorem dX1_init_15 : decode cX1_init 15 = .ok (.aload_n 0, 1) := by decide +kernel
theorem dX1_init_16 : decode cX1_init 16 = .ok (.iload_n 1, 1) := by decide +kernel
theorem dX1_init_17 : decode cX1_init 17 = .ok (.putfield 18, 3) := by decide +kernel
theorem dX1_init_20 : decode cX1_init 20 = .ok (.aload_n 0, 1) := by decide +kernel
theorem dX1_init_21 : decode cX1_init 21 = .ok (.iload_n 2, 1) := by decide +kernel
theorem dX1_init_22 : decode cX1_init 22 = .ok (.putfield 22, 3) := by decide +kernel
theorem dX1_init_25 : decode cX1_init 25 = .ok (.aload_n 0, 1) := by decide +kernel
theorem dX1_init_26 : decode cX1_init 26 = .ok (.iload_n 3, 1) := by decide +kernel
theorem dX1_init_27 : decode cX1_init 27 = .ok (.putfield 25, 3) := by decide +kernel
theorem dX1_init_30 : decode cX1_init 30 = .ok (.return_, 1) := by decide +kernel
theorem dX1_isJump_0 : decode cX1_isJump 0 = .ok (.aload_n 0, 1) := by decide +kernel
theorem dX1_isJump_1 : decode cX1_isJump 1 = .ok (.getfield 18, 3) := by decide +kernel
theorem dX1_isJump_4 : decode cX1_isJump 4 = .ok (.bipush 19, 2) := by decide +kernel
theorem dX1_isJump_6 : decode cX1_isJump 6 = .ok (.if_icmp .lt 16, 3) := by decide +kernel
theorem dX1_isJump_9 : decode cX1_isJump 9 = .ok (.aload_n 0, 1) := by decide +kernel
theorem dX1_isJump_10 : decode cX1_isJump 10 = .ok (.getfield 18, 3) := by decide +kernel
theorem dX1_isJump_13 : decode cX1_isJump 13 = .ok (.bipush 25, 2) := by decide +kernel
theorem dX1_isJump_15 : decode cX1_isJump 15 = .ok (.if_icmp .gt 7, 3) := by decide +kernel
theorem dX1_isJump_18 : decode cX1_isJump 18 = .ok (.iconst 1, 1) := by decide +kernel
theorem dX1_isJump_19 : decode cX1_isJump 19 = .ok (.goto 4, 3) := by decide +kernel
theorem dX1_isJump_22 : decode cX1_isJump 22 = .ok (.iconst 0, 1) := by decide +kernel
theorem dX1_isJump_23 : decode cX1_isJump 23 = .ok (.ireturn, 1) := by decide +kernel
theorem dX1_goesOnBehind_0 : decode cX1_goesOnBehind 0 = .ok (.aload_n 0, 1) := by decide +kernel
theorem dX1_goesOnBehind_1 : decode cX1_goesOnBehind 1 = .ok (.getfield 18, 3) := by decide +kernel
theorem dX1_goesOnBehind_4 : decode cX1_goesOnBehind 4 = .ok (.bipush 25, 2) := by decide +kernel
theorem dX1_goesOnBehind_6 : decode cX1_goesOnBehind 6 = .ok (.if_icmp .eq 34, 3) := by decide +kernel
theorem dX1_goesOnBehind_9 : decode cX1_goesOnBehind 9 = .ok (.aload_n 0, 1) := by decide +kernel
theorem dX1_goesOnBehind_10 : decode cX1_goesOnBehind 10 = .ok (.getfield 18, 3) := by decide +kernel
theorem dX1_goesOnBehind_13 : decode cX1_goesOnBehind 13 = .ok (.bipush 37, 2) := by decide +kernel
theorem dX1_goesOnBehind_15 : decode cX1_goesOnBehind 15 = .ok (.if_icmp .eq 25, 3) := by decide +kernel
theorem dX1_goesOnBehind_18 : decode cX1_goesOnBehind 18 = .ok (.aload_n 0, 1) := by decide +kernel
theorem dX1_goesOnBehind_19 : decode cX1_goesOnBehind 19 = .ok (.getfield 18, 3) := by decide +kernel
theorem dX1_goesOnBehind_22 : decode cX1_goesOnBehind 22 = .ok (.bipush 38, 2) := by decide +kernel
theorem dX1_goesOnBehind_24 : decode cX1_goesOnBehind 24 = .ok (.if_icmp .eq 16, 3) := by decide +kernel
theorem dX1_goesOnBehind_27 : decode cX1_goesOnBehind 27 = .ok (.aload_n 0, 1) := by decide +kernel
theorem dX1_goesOnBehind_28 : decode cX1_goesOnBehind 28 = .ok (.getfield 18, 3) := by decide +kernel
theorem dX1_goesOnBehind_31 : decode cX1_goesOnBehind 31 = .ok (.bipush 39, 2) := by decide +kernel
theorem dX1_goesOnBehind_33 : decode cX1_goesOnBehind 33 = .ok (.if_icmp .eq 7, 3) := by decide +kernel
theorem dX1_goesOnBehind_36 : decode cX1_goesOnBehind 36 = .ok (.iconst 1, 1) := by decide +kernel
theorem dX1_goesOnBehind_37 : decode cX1_goesOnBehind 37 = .ok (.goto 4, 3) := by decide +kernel
theorem dX1_goesOnBehind_40 : decode cX1_goesOnBehind 40 = .ok (.iconst 0, 1) := by decide +kernel
theorem dX1_goesOnBehind_41 : decode cX1_goesOnBehind 41 = .ok (.ireturn, 1) := by decide +kernel
theorem dX2_init_0 : decode cX2_init 0 = .ok (.aload_n 0, 1) := by decide +kernel
theorem dX2_init_1 : decode cX2_init 1 = .ok (.invokespecial 3, 3) := by decide +kernel
theorem dX2_init_4 : decode cX2_init 4 = .ok (.aload_n 0, 1) := by decide +kernel
theorem dX2_init_5 : decode cX2_init 5 = .ok (.bipush 15, 2) := by decide +kernel
theorem dX2_init_7 : decode cX2_init 7 = .ok (.newarray .int, 2) := by decide +kernel
theorem dX2_init_9 : decode cX2_init 9 = .ok (.putfield 9, 3) := by decide +kernel
theorem dX2_init_12 : decode cX2_init 12 = .ok (.aload_n 0, 1) := by decide +kernel
theorem dX2_init_13 : decode cX2_init 13 = .ok (.bipush 16, 2) := by decide +kernel
theorem dX2_init_15 : decode cX2_init 15 = .ok (.newarray .int, 2) := by decide +kernel
theorem dX2_init_17 : decode cX2_init 17 = .ok (.putfield 15, 3) := by decide +kernel
theorem dX2_init_20 : decode cX2_init 20 = .ok (.aload_n 0, 1) := by decide +kernel
theorem dX2_init_21 : decode cX2_init 21 = .ok (.iload_n 1, 1) := by decide +kernel
theorem dX2_init_22 : decode cX2_init 22 = .ok (.putfield 18, 3) := by decide +kernel
theorem dX2_init_25 : decode cX2_init 25 = .ok (.iconst 1, 1) := by decide +kernel
theorem dX2_init_26 : decode cX2_init 26 = .ok (.iload_n 1, 1) := by decide +kernel
theorem dX2_init_27 : decode cX2_init 27 = .ok (.ishl, 1) := by decide +kernel
theorem dX2_init_28 : decode cX2_init 28 = .ok (.istore_n 3, 1) := by decide +kernel
theorem dX2_init_29 : decode cX2_init 29 = .ok (.aload_n 2, 1) := by decide +kernel
theorem dX2_init_30 : decode cX2_init 30 = .ok (.ifnonnull 17, 3) := by decide +kernel
theorem dX2_init_33 : decode cX2_init 33 = .ok (.aload_n 0, 1) := by decide +kernel
theorem dX2_init_34 : decode cX2_init 34 = .ok (.iload_n 3, 1) := by decide +kernel
theorem dX2_init_35 : decode cX2_init 35 = .ok (.putfield 22, 3) := by decide +kernel
theorem dX2_init_38 : decode cX2_init 38 = .ok (.aload_n 0, 1) := by decide +kernel
theorem dX2_init_39 : decode cX2_init 39 = .ok (.getfield 15, 3) := by decide +kernel
theorem dX2_init_42 : decode cX2_init 42 = .ok (.iconst (-1), 1) := by decide +kernel
theorem dX2_init_43 : decode cX2_init 43 = .ok (.invokestatic 25, 3) := by decide +kernel
theorem dX2_init_46 : decode cX2_init 46 = .ok (.return_, 1) := by decide +kernel
theorem dX2_init_47 : decode cX2_init 47 = .ok (.aload_n 0, 1) := by decide +kernel
theorem dX2_init_48 : decode cX2_init 48 = .ok (.aload_n 2, 1) := by decide +kernel
theorem dX2_init_49 : decode cX2_init 49 = .ok (.getfield 22, 3) := by decide +kernel
theorem dX2_init_52 : decode cX2_init 52 = .ok (.iload_n 3, 1) := by decide +kernel
theorem dX2_init_53 : decode cX2_init 53 = .ok (.ior, 1) := by decide +kernel
theorem dX2_init_54 : decode cX2_init 54 = .ok (.putfield 22, 3) := by decide +kernel
theorem dX2_init_57 : decode cX2_init 57 = .ok (.aload_n 0, 1) := by decide +kernel
theorem dX2_init_58 : decode cX2_init 58 = .ok (.aload_n 2, 1) := by decide +kernel
theorem dX2_init_59 : decode cX2_init 59 = .ok (.getfield 31, 3) := by decide +kernel
theorem dX2_init_62 : decode cX2_init 62 = .ok (.putfield 31, 3) := by decide +kernel
theorem dX2_init_65 : decode cX2_init 65 = .ok (.iconst 0, 1) := by decide +kernel
theorem dX2_init_66 : decode cX2_init 66 = .ok (.istore 4, 2) := by decide +kernel
theorem dX2_init_68 : decode cX2_init 68 = .ok (.iload 4, 2) := by decide +kernel
theorem dX2_init_70 : decode cX2_init 70 = .ok (.bipush 15, 2) := by decide +kernel
theorem dX2_init_72 : decode cX2_init 72 = .ok (.if_icmp .ge 23, 3) := by decide +kernel
theorem dX2_init_75 : decode cX2_init 75 = .ok (.aload_n 0, 1) := by decide +kernel
theorem dX2_init_76 : decode cX2_init 76 = .ok (.getfield 9, 3) := by decide +kernel
theorem dX2_init_79 : decode cX2_init 79 = .ok (.iload 4, 2) := by decide +kernel
theorem dX2_init_81 : decode cX2_init 81 = .ok (.aload_n 2, 1) := by decide +kernel
theorem dX2_init_82 : decode cX2_init 82 = .ok (.getfield 9, 3) := by decide +kernel
theorem dX2_init_85 : decode cX2_init 85 = .ok (.iload 4, 2) := by decide +kernel
theorem dX2_init_87 : decode cX2_init 87 = .ok (.iaload, 1) := by decide +kernel
theorem dX2_init_88 : decode cX2_init 88 = .ok (.iastore, 1) := by decide +kernel
theorem dX2_init_89 : decode cX2_init 89 = .ok (.iinc 4 1, 3) := by decide +kernel
theorem dX2_init_92 : decode cX2_init 92 = .ok (.goto (-24), 3) := by decide +kernel
theorem dX2_init_95 : decode cX2_init 95 = .ok (.iconst 0, 1) := by decide +kernel
theorem dX2_init_96 : decode cX2_init 96 = .ok (.istore 4, 2) := by decide +kernel
theorem dX2_init_98 : decode cX2_init 98 = .ok (.iload 4, 2) := by decide +kernel
theorem dX2_init_100 : decode cX2_init 100 = .ok (.bipush 16, 2) := by decide +kernel
theorem dX2_init_102 : decode cX2_init 102 = .ok (.if_icmp .ge 23, 3) := by decide +kernel
theorem dX2_init_105 : decode cX2_init 105 = .ok (.aload_n 0, 1) := by decide +kernel
theorem dX2_init_106 : decode cX2_init 106 = .ok (.getfield 15, 3) := by decide +kernel
theorem dX2_init_109 : decode cX2_init 109 = .ok (.iload 4, 2) := by decide +kernel
theorem dX2_init_111 : decode cX2_init 111 = .ok (.aload_n 2, 1) := by decide +kernel
theorem dX2_init_112 : decode cX2_init 112 = .ok (.getfield 15, 3) := by decide +kernel
theorem dX2_init_115 : decode cX2_init 115 = .ok (.iload 4, 2) := by decide +kernel
theorem dX2_init_117 : decode cX2_init 117 = .ok (.iaload, 1) := by decide +kernel
theorem dX2_init_118 : decode cX2_init 118 = .ok (.iastore, 1) := by decide +kernel
theorem dX2_init_119 : decode cX2_init 119 = .ok (.iinc 4 1, 3) := by decide +kernel
theorem dX2_init_122 : decode cX2_init 122 = .ok (.goto (-24), 3) := by decide +kernel
theorem dX2_init_125 : decode cX2_init 125 = .ok (.return_, 1) := by decide +kernel
theorem dX2_asType_0 : decode cX2_asType 0 = .ok (.iconst 1, 1) := by decide +kernel
theorem dX2_asType_1 : decode cX2_asType 1 = .ok (.aload_n 0, 1) := by decide +kernel
theorem dX2_asType_2 : decode cX2_asType 2 = .ok (.getfield 18, 3) := by decide +kernel
theorem dX2_asType_5 : decode cX2_asType 5 = .ok (.iadd, 1) := by decide +kernel
theorem dX2_asType_6 : decode cX2_asType 6 = .ok (.ireturn, 1) := by decide +kernel
theorem dX2_isOrIsUnder_0 : decode cX2_isOrIsUnder 0 = .ok (.aload_n 0, 1) := by decide +kernel
theorem dX2_isOrIsUnder_1 : decode cX2_isOrIsUnder 1 = .ok (.getfield 22, 3) := by decide +kernel
theorem dX2_isOrIsUnder_4 : decode cX2_isOrIsUnder 4 = .ok (.iload_n 1, 1) := by decide +kernel
theorem dX2_isOrIsUnder_5 : decode cX2_isOrIsUnder 5 = .ok (.iushr, 1) := by decide +kernel
theorem dX2_isOrIsUnder_6 : decode cX2_isOrIsUnder 6 = .ok (.iconst 1, 1) := by decide +kernel
theorem dX2_isOrIsUnder_7 : decode cX2_isOrIsUnder 7 = .ok (.iand, 1) := by decide +kernel
theorem dX2_isOrIsUnder_8 : decode cX2_isOrIsUnder 8 = .ok (.ifCond .eq 7, 3) := by decide +kernel
theorem dX2_isOrIsUnder_11 : decode cX2_isOrIsUnder 11 = .ok (.iconst 1, 1) := by decide +kernel
theorem dX2_isOrIsUnder_12 : decode cX2_isOrIsUnder 12 = .ok (.goto 4, 3) := by decide +kernel
theorem dX2_isOrIsUnder_15 : decode cX2_isOrIsUnder 15 = .ok (.iconst 0, 1) := by decide +kernel
theorem dX2_isOrIsUnder_16 : decode cX2_isOrIsUnder 16 = .ok (.ireturn, 1) := by decide +kernel
theorem dX2_addField_0 : decode cX2_addField 0 = .ok (.aload_n 0, 1) := by decide +kernel
theorem dX2_addField_1 : decode cX2_addField 1 = .ok (.getfield 31, 3) := by decide +kernel
theorem dX2_addField_4 : decode cX2_addField 4 = .ok (.bipush 15, 2) := by decide +kernel
theorem dX2_addField_6 : decode cX2_addField 6 = .ok (.if_icmp .lt 6, 3) := by decide +kernel
theorem dX2_addField_9 : decode cX2_addField 9 = .ok (.bipush (-2), 2) := by decide +kernel
theorem dX2_addField_11 : decode cX2_addField 11 = .ok (.ireturn, 1) := by decide +kernel
theorem dX2_addField_12 : decode cX2_addField 12 = .ok (.aload_n 0, 1) := by decide +kernel
theorem dX2_addField_13 : decode cX2_addField 13 = .ok (.getfield 9, 3) := by decide +kernel
theorem dX2_addField_16 : decode cX2_addField 16 = .ok (.aload_n 0, 1) := by decide +kernel
theorem dX2_addField_17 : decode cX2_addField 17 = .ok (.getfield 31, 3) := by decide +kernel
theorem dX2_addField_20 : decode cX2_addField 20 = .ok (.iload_n 1, 1) := by decide +kernel
theorem dX2_addField_21 : decode cX2_addField 21 = .ok (.iastore, 1) := by decide +kernel
theorem dX2_addField_22 : decode cX2_addField 22 = .ok (.aload_n 0, 1) := by decide +kernel
theorem dX2_addField_23 : decode cX2_addField 23 = .ok (.dup, 1) := by decide +kernel
theorem dX2_addField_24 : decode cX2_addField 24 = .ok (.getfield 31, 3) := by decide +kernel
theorem dX2_addField_27 : decode cX2_addField 27 = .ok (.iconst 1, 1) := by decide +kernel
theorem dX2_addField_28 : decode cX2_addField 28 = .ok (.iadd, 1) := by decide +kernel
theorem dX2_addField_29 : decode cX2_addField 29 = .ok (.putfield 31, 3) := by decide +kernel
theorem dX2_addField_32 : decode cX2_addField 32 = .ok (.aload_n 0, 1) := by decide +kernel
theorem dX2_addField_33 : decode cX2_addField 33 = .ok (.getfield 31, 3) := by decide +kernel
theorem dX2_addField_36 : decode cX2_addField 36 = .ok (.iconst 1, 1) := by decide +kernel
theorem dX2_addField_37 : decode cX2_addField 37 = .ok (.isub, 1) := by decide +kernel
theorem dX2_addField_38 : decode cX2_addField 38 = .ok (.ireturn, 1) := by decide +kernel
theorem dX2_fieldType_0 : decode cX2_fieldType 0 = .ok (.iload_n 1, 1) := by decide +kernel
theorem dX2_fieldType_1 : decode cX2_fieldType 1 = .ok (.ifCond .lt 26, 3) := by decide +kernel
theorem dX2_fieldType_4 : decode cX2_fieldType 4 = .ok (.iload_n 1, 1) := by decide +kernel
theorem dX2_fieldType_5 : decode cX2_fieldType 5 = .ok (.aload_n 0, 1) := by decide +kernel
theorem dX2_fieldType_6 : decode cX2_fieldType 6 = .ok (.getfield 31, 3) := by decide +kernel
theorem dX2_fieldType_9 : decode cX2_fieldType 9 = .ok (.if_icmp .ge 18, 3) := by decide +kernel
theorem dX2_fieldType_12 : decode cX2_fieldType 12 = .ok (.iload_n 1, 1) := by decide +kernel
theorem dX2_fieldType_13 : decode cX2_fieldType 13 = .ok (.bipush 15, 2) := by decide +kernel
theorem dX2_fieldType_15 : decode cX2_fieldType 15 = .ok (.if_icmp .ge 12, 3) := by decide +kernel
theorem dX2_fieldType_18 : decode cX2_fieldType 18 = .ok (.aload_n 0, 1) := by decide +kernel
theorem dX2_fieldType_19 : decode cX2_fieldType 19 = .ok (.getfield 9, 3) := by decide +kernel
theorem dX2_fieldType_22 : decode cX2_fieldType 22 = .ok (.iload_n 1, 1) := by decide +kernel
theorem dX2_fieldType_23 : decode cX2_fieldType 23 = .ok (.iaload, 1) := by decide +kernel
theorem dX2_fieldType_24 : decode cX2_fieldType 24 = .ok (.goto 4, 3) := by decide +kernel
theorem dX2_fieldType_27 : decode cX2_fieldType 27 = .ok (.iconst (-1), 1) := by decide +kernel
theorem dX2_fieldType_28 : decode cX2_fieldType 28 = .ok (.ireturn, 1) := by decide +kernel
theorem dX2_inSlot_0 : decode cX2_inSlot 0 = .ok (.iload_n 1, 1) := by decide +kernel
theorem dX2_inSlot_1 : decode cX2_inSlot 1 = .ok (.ifCond .lt 18, 3) := by decide +kernel
theorem dX2_inSlot_4 : decode cX2_inSlot 4 = .ok (.iload_n 1, 1) := by decide +kernel
theorem dX2_inSlot_5 : decode cX2_inSlot 5 = .ok (.bipush 16, 2) := by decide +kernel
theorem dX2_inSlot_7 : decode cX2_inSlot 7 = .ok (.if_icmp .ge 12, 3) := by decide +kernel
theorem dX2_inSlot_10 : decode cX2_inSlot 10 = .ok (.aload_n 0, 1) := by decide +kernel
theorem dX2_inSlot_11 : decode cX2_inSlot 11 = .ok (.getfield 15, 3) := by decide +kernel
theorem dX2_inSlot_14 : decode cX2_inSlot 14 = .ok (.iload_n 1, 1) := by decide +kernel
theorem dX2_inSlot_15 : decode cX2_inSlot 15 = .ok (.iaload, 1) := by decide +kernel
theorem dX2_inSlot_16 : decode cX2_inSlot 16 = .ok (.goto 4, 3) := by decide +kernel
theorem dX2_inSlot_19 : decode cX2_inSlot 19 = .ok (.iconst (-1), 1) := by decide +kernel
theorem dX2_inSlot_20 : decode cX2_inSlot 20 = .ok (.ireturn, 1) := by decide +kernel
theorem dX3_init_0 : decode cX3_init 0 = .ok (.aload_n 0, 1) := by decide +kernel
theorem dX3_init_1 : decode cX3_init 1 = .ok (.invokespecial 3, 3) := by decide +kernel
theorem dX3_init_4 : decode cX3_init 4 = .ok (.aload_n 0, 1) := by decide +kernel
theorem dX3_init_5 : decode cX3_init 5 = .ok (.bipush 8, 2) := by decide +kernel
theorem dX3_init_7 : decode cX3_init 7 = .ok (.newarray .int, 2) := by decide +kernel
theorem dX3_init_9 : decode cX3_init 9 = .ok (.putfield 9, 3) := by decide +kernel
theorem dX3_init_12 : decode cX3_init 12 = .ok (.aload_n 0, 1) := by decide +kernel
theorem dX3_init_13 : decode cX3_init 13 = .ok (.sipush 200, 3) := by decide +kernel
theorem dX3_init_16 : decode cX3_init 16 = .ok (.anewarray 15, 3) := by decide +kernel
theorem dX3_init_19 : decode cX3_init 19 = .ok (.putfield 17, 3) := by decide +kernel
theorem dX3_init_22 : decode cX3_init 22 = .ok (.aload_n 0, 1) := by decide +kernel
theorem dX3_init_23 : decode cX3_init 23 = .ok (.bipush 8, 2) := by decide +kernel
theorem dX3_init_25 : decode cX3_init 25 = .ok (.anewarray 21, 3) := by decide +kernel
theorem dX3_init_28 : decode cX3_init 28 = .ok (.putfield 23, 3) := by decide +kernel
theorem dX3_init_31 : decode cX3_init 31 = .ok (.aload_n 0, 1) := by decide +kernel
theorem dX3_init_32 : decode cX3_init 32 = .ok (.aload_n 1, 1) := by decide +kernel
theorem dX3_init_33 : decode cX3_init 33 = .ok (.putfield 27, 3) := by decide +kernel
theorem dX3_init_36 : decode cX3_init 36 = .ok (.aload_n 0, 1) := by decide +kernel
theorem dX3_init_37 : decode cX3_init 37 = .ok (.iload_n 2, 1) := by decide +kernel
theorem dX3_init_38 : decode cX3_init 38 = .ok (.putfield 31, 3) := by decide +kernel
theorem dX3_init_41 : decode cX3_init 41 = .ok (.aload_n 0, 1) := by decide +kernel
theorem dX3_init_42 : decode cX3_init 42 = .ok (.iload_n 3, 1) := by decide +kernel
theorem dX3_init_43 : decode cX3_init 43 = .ok (.putfield 35, 3) := by decide +kernel
theorem dX3_init_46 : decode cX3_init 46 = .ok (.aload_n 0, 1) := by decide +kernel
theorem dX3_init_47 : decode cX3_init 47 = .ok (.iload 4, 2) := by decide +kernel
theorem dX3_init_49 : decode cX3_init 49 = .ok (.putfield 38, 3) := by decide +kernel
theorem dX3_init_52 : decode cX3_init 52 = .ok (.aload_n 1, 1) := by decide +kernel
theorem dX3_init_53 : decode cX3_init 53 = .ok (.ifnull 18, 3) := by decide +kernel
theorem dX3_init_56 : decode cX3_init 56 = .ok (.aload_n 0, 1) := by decide +kernel
theorem dX3_init_57 : decode cX3_init 57 = .ok (.getfield 9, 3) := by decide +kernel
theorem dX3_init_60 : decode cX3_init 60 = .ok (.iconst 0, 1) := by decide +kernel
theorem dX3_init_61 : decode cX3_init 61 = .ok (.aload_n 1, 1) := by decide +kernel
theorem dX3_init_62 : decode cX3_init 62 = .ok (.invokevirtual 41, 3) := by decide +kernel
theorem dX3_init_65 : decode cX3_init 65 = .ok (.iastore, 1) := by decide +kernel
theorem dX3_init_66 : decode cX3_init 66 = .ok (.aload_n 0, 1) := by decide +kernel
theorem dX3_init_67 : decode cX3_init 67 = .ok (.iconst 1, 1) := by decide +kernel
theorem dX3_init_68 : decode cX3_init 68 = .ok (.putfield 47, 3) := by decide +kernel
theorem dX3_init_71 : decode cX3_init 71 = .ok (.return_, 1) := by decide +kernel
theorem dX3_isOpenForParameters_0 : decode cX3_isOpenForParameters 0 = .ok (.aload_n 0, 1) := by decide +kernel
theorem dX3_isOpenForParameters_1 : decode cX3_isOpenForParameters 1 = .ok (.getfield 47, 3) := by decide +kernel
theorem dX3_isOpenForParameters_4 : decode cX3_isOpenForParameters 4 = .ok (.aload_n 0, 1) := by decide +kernel
theorem dX3_isOpenForParameters_5 : decode cX3_isOpenForParameters 5 = .ok (.getfield 35, 3) := by decide +kernel
theorem dX3_isOpenForParameters_8 : decode cX3_isOpenForParameters 8 = .ok (.if_icmp .ge 30, 3) := by decide +kernel
theorem dX3_isOpenForParameters_11 : decode cX3_isOpenForParameters 11 = .ok (.aload_n 0, 1) := by decide +kernel
theorem dX3_isOpenForParameters_12 : decode cX3_isOpenForParameters 12 = .ok (.getfield 47, 3) := by decide +kernel
theorem dX3_isOpenForParameters_15 : decode cX3_isOpenForParameters 15 = .ok (.bipush 8, 2) := by decide +kernel
theorem dX3_isOpenForParameters_17 : decode cX3_isOpenForParameters 17 = .ok (.if_icmp .ge 21, 3) := by decide +kernel
theorem dX3_isOpenForParameters_20 : decode cX3_isOpenForParameters 20 = .ok (.aload_n 0, 1) := by decide +kernel
theorem dX3_isOpenForParameters_21 : decode cX3_isOpenForParameters 21 = .ok (.getfield 50, 3) := by decide +kernel
theorem dX3_isOpenForParameters_24 : decode cX3_isOpenForParameters 24 = .ok (.ifCond .ne 14, 3) := by decide +kernel
theorem dX3_isOpenForParameters_27 : decode cX3_isOpenForParameters 27 = .ok (.aload_n 0, 1) := by decide +kernel
theorem dX3_isOpenForParameters_28 : decode cX3_isOpenForParameters 28 = .ok (.getfield 53, 3) := by decide +kernel
theorem dX3_isOpenForParameters_31 : decode cX3_isOpenForParameters 31 = .ok (.ifCond .ne 7, 3) := by decide +kernel
theorem dX3_isOpenForParameters_34 : decode cX3_isOpenForParameters 34 = .ok (.iconst 1, 1) := by decide +kernel
theorem dX3_isOpenForParameters_35 : decode cX3_isOpenForParameters 35 = .ok (.goto 4, 3) := by decide +kernel
theorem dX3_isOpenForParameters_38 : decode cX3_isOpenForParameters 38 = .ok (.iconst 0, 1) := by decide +kernel
theorem dX3_isOpenForParameters_39 : decode cX3_isOpenForParameters 39 = .ok (.ireturn, 1) := by decide +kernel
theorem dX3_addParameter_0 : decode cX3_addParameter 0 = .ok (.aload_n 0, 1) := by decide +kernel
theorem dX3_addParameter_1 : decode cX3_addParameter 1 = .ok (.getfield 47, 3) := by decide +kernel
theorem dX3_addParameter_4 : decode cX3_addParameter 4 = .ok (.bipush 8, 2) := by decide +kernel
theorem dX3_addParameter_6 : decode cX3_addParameter 6 = .ok (.if_icmp .lt 5, 3) := by decide +kernel
theorem dX3_addParameter_9 : decode cX3_addParameter 9 = .ok (.iconst (-1), 1) := by decide +kernel
theorem dX3_addParameter_10 : decode cX3_addParameter 10 = .ok (.ireturn, 1) := by decide +kernel
theorem dX3_addParameter_11 : decode cX3_addParameter 11 = .ok (.aload_n 0, 1) := by decide +kernel
theorem dX3_addParameter_12 : decode cX3_addParameter 12 = .ok (.getfield 9, 3) := by decide +kernel
theorem dX3_addParameter_15 : decode cX3_addParameter 15 = .ok (.aload_n 0, 1) := by decide +kernel
theorem dX3_addParameter_16 : decode cX3_addParameter 16 = .ok (.getfield 47, 3) := by decide +kernel
theorem dX3_addParameter_19 : decode cX3_addParameter 19 = .ok (.iload_n 1, 1) := by decide +kernel
theorem dX3_addParameter_20 : decode cX3_addParameter 20 = .ok (.iastore, 1) := by decide +kernel
theorem dX3_addParameter_21 : decode cX3_addParameter 21 = .ok (.aload_n 0, 1) := by decide +kernel
theorem dX3_addParameter_22 : decode cX3_addParameter 22 = .ok (.dup, 1) := by decide +kernel
theorem dX3_addParameter_23 : decode cX3_addParameter 23 = .ok (.getfield 47, 3) := by decide +kernel
theorem dX3_addParameter_26 : decode cX3_addParameter 26 = .ok (.iconst 1, 1) := by decide +kernel
theorem dX3_addParameter_27 : decode cX3_addParameter 27 = .ok (.iadd, 1) := by decide +kernel
theorem dX3_addParameter_28 : decode cX3_addParameter 28 = .ok (.putfield 47, 3) := by decide +kernel
theorem dX3_addParameter_31 : decode cX3_addParameter 31 = .ok (.aload_n 0, 1) := by decide +kernel
theorem dX3_addParameter_32 : decode cX3_addParameter 32 = .ok (.iconst 0, 1) := by decide +kernel
theorem dX3_addParameter_33 : decode cX3_addParameter 33 = .ok (.putfield 57, 3) := by decide +kernel
theorem dX3_addParameter_36 : decode cX3_addParameter 36 = .ok (.aload_n 0, 1) := by decide +kernel
theorem dX3_addParameter_37 : decode cX3_addParameter 37 = .ok (.getfield 47, 3) := by decide +kernel
theorem dX3_addParameter_40 : decode cX3_addParameter 40 = .ok (.ireturn, 1) := by decide +kernel
theorem dX3_parameterAt_0 : decode cX3_parameterAt 0 = .ok (.iload_n 1, 1) := by decide +kernel
theorem dX3_parameterAt_1 : decode cX3_parameterAt 1 = .ok (.ifCond .lt 26, 3) := by decide +kernel
theorem dX3_parameterAt_4 : decode cX3_parameterAt 4 = .ok (.iload_n 1, 1) := by decide +kernel
theorem dX3_parameterAt_5 : decode cX3_parameterAt 5 = .ok (.aload_n 0, 1) := by decide +kernel
theorem dX3_parameterAt_6 : decode cX3_parameterAt 6 = .ok (.getfield 47, 3) := by decide +kernel
theorem dX3_parameterAt_9 : decode cX3_parameterAt 9 = .ok (.if_icmp .ge 18, 3) := by decide +kernel
theorem dX3_parameterAt_12 : decode cX3_parameterAt 12 = .ok (.iload_n 1, 1) := by decide +kernel
theorem dX3_parameterAt_13 : decode cX3_parameterAt 13 = .ok (.bipush 8, 2) := by decide +kernel
theorem dX3_parameterAt_15 : decode cX3_parameterAt 15 = .ok (.if_icmp .ge 12, 3) := by decide +kernel
theorem dX3_parameterAt_18 : decode cX3_parameterAt 18 = .ok (.aload_n 0, 1) := by decide +kernel
theorem dX3_parameterAt_19 : decode cX3_parameterAt 19 = .ok (.getfield 9, 3) := by decide +kernel
theorem dX3_parameterAt_22 : decode cX3_parameterAt 22 = .ok (.iload_n 1, 1) := by decide +kernel
theorem dX3_parameterAt_23 : decode cX3_parameterAt 23 = .ok (.iaload, 1) := by decide +kernel
theorem dX3_parameterAt_24 : decode cX3_parameterAt 24 = .ok (.goto 4, 3) := by decide +kernel
theorem dX3_parameterAt_27 : decode cX3_parameterAt 27 = .ok (.iconst (-1), 1) := by decide +kernel
theorem dX3_parameterAt_28 : decode cX3_parameterAt 28 = .ok (.ireturn, 1) := by decide +kernel
theorem dX3_isCalledLike_0 : decode cX3_isCalledLike 0 = .ok (.aload_n 0, 1) := by decide +kernel
theorem dX3_isCalledLike_1 : decode cX3_isCalledLike 1 = .ok (.getfield 31, 3) := by decide +kernel
theorem dX3_isCalledLike_4 : decode cX3_isCalledLike 4 = .ok (.aload_n 1, 1) := by decide +kernel
theorem dX3_isCalledLike_5 : decode cX3_isCalledLike 5 = .ok (.getfield 31, 3) := by decide +kernel
theorem dX3_isCalledLike_8 : decode cX3_isCalledLike 8 = .ok (.if_icmp .ne 14, 3) := by decide +kernel
theorem dX3_isCalledLike_11 : decode cX3_isCalledLike 11 = .ok (.aload_n 0, 1) := by decide +kernel
theorem dX3_isCalledLike_12 : decode cX3_isCalledLike 12 = .ok (.getfield 47, 3) := by decide +kernel
theorem dX3_isCalledLike_15 : decode cX3_isCalledLike 15 = .ok (.aload_n 1, 1) := by decide +kernel
theorem dX3_isCalledLike_16 : decode cX3_isCalledLike 16 = .ok (.getfield 47, 3) := by decide +kernel
theorem dX3_isCalledLike_19 : decode cX3_isCalledLike 19 = .ok (.if_icmp .eq 5, 3) := by decide +kernel
theorem dX3_isCalledLike_22 : decode cX3_isCalledLike 22 = .ok (.iconst 0, 1) := by decide +kernel
theorem dX3_isCalledLike_23 : decode cX3_isCalledLike 23 = .ok (.ireturn, 1) := by decide +kernel
theorem dX3_isCalledLike_24 : decode cX3_isCalledLike 24 = .ok (.iconst 1, 1) := by decide +kernel
theorem dX3_isCalledLike_25 : decode cX3_isCalledLike 25 = .ok (.istore_n 2, 1) := by decide +kernel
theorem dX3_isCalledLike_26 : decode cX3_isCalledLike 26 = .ok (.iload_n 2, 1) := by decide +kernel
theorem dX3_isCalledLike_27 : decode cX3_isCalledLike 27 = .ok (.aload_n 0, 1) := by decide +kernel
theorem dX3_isCalledLike_28 : decode cX3_isCalledLike 28 = .ok (.getfield 47, 3) := by decide +kernel
theorem dX3_isCalledLike_31 : decode cX3_isCalledLike 31 = .ok (.if_icmp .ge 24, 3) := by decide +kernel
theorem dX3_isCalledLike_34 : decode cX3_isCalledLike 34 = .ok (.aload_n 0, 1) := by decide +kernel
theorem dX3_isCalledLike_35 : decode cX3_isCalledLike 35 = .ok (.iload_n 2, 1) := by decide +kernel
theorem dX3_isCalledLike_36 : decode cX3_isCalledLike 36 = .ok (.invokevirtual 60, 3) := by decide +kernel
theorem dX3_isCalledLike_39 : decode cX3_isCalledLike 39 = .ok (.aload_n 1, 1) := by decide +kernel
theorem dX3_isCalledLike_40 : decode cX3_isCalledLike 40 = .ok (.iload_n 2, 1) := by decide +kernel
theorem dX3_isCalledLike_41 : decode cX3_isCalledLike 41 = .ok (.invokevirtual 60, 3) := by decide +kernel
theorem dX3_isCalledLike_44 : decode cX3_isCalledLike 44 = .ok (.if_icmp .eq 5, 3) := by decide +kernel
theorem dX3_isCalledLike_47 : decode cX3_isCalledLike 47 = .ok (.iconst 0, 1) := by decide +kernel
theorem dX3_isCalledLike_48 : decode cX3_isCalledLike 48 = .ok (.ireturn, 1) := by decide +kernel
theorem dX3_isCalledLike_49 : decode cX3_isCalledLike 49 = .ok (.iinc 2 1, 3) := by decide +kernel
theorem dX3_isCalledLike_52 : decode cX3_isCalledLike 52 = .ok (.goto (-26), 3) := by decide +kernel
theorem dX3_isCalledLike_55 : decode cX3_isCalledLike 55 = .ok (.iconst 1, 1) := by decide +kernel
theorem dX3_isCalledLike_56 : decode cX3_isCalledLike 56 = .ok (.ireturn, 1) := by decide +kernel
theorem dX3_addInstruction_0 : decode cX3_addInstruction 0 = .ok (.aload_n 0, 1) := by decide +kernel
theorem dX3_addInstruction_1 : decode cX3_addInstruction 1 = .ok (.getfield 50, 3) := by decide +kernel
theorem dX3_addInstruction_4 : decode cX3_addInstruction 4 = .ok (.sipush 200, 3) := by decide +kernel
theorem dX3_addInstruction_7 : decode cX3_addInstruction 7 = .ok (.if_icmp .lt 6, 3) := by decide +kernel
theorem dX3_addInstruction_10 : decode cX3_addInstruction 10 = .ok (.bipush (-2), 2) := by decide +kernel
theorem dX3_addInstruction_12 : decode cX3_addInstruction 12 = .ok (.ireturn, 1) := by decide +kernel
theorem dX3_addInstruction_13 : decode cX3_addInstruction 13 = .ok (.aload_n 0, 1) := by decide +kernel
theorem dX3_addInstruction_14 : decode cX3_addInstruction 14 = .ok (.getfield 17, 3) := by decide +kernel
theorem dX3_addInstruction_17 : decode cX3_addInstruction 17 = .ok (.aload_n 0, 1) := by decide +kernel
theorem dX3_addInstruction_18 : decode cX3_addInstruction 18 = .ok (.getfield 50, 3) := by decide +kernel
theorem dX3_addInstruction_21 : decode cX3_addInstruction 21 = .ok (.new 15, 3) := by decide +kernel
theorem dX3_addInstruction_24 : decode cX3_addInstruction 24 = .ok (.dup, 1) := by decide +kernel
theorem dX3_addInstruction_25 : decode cX3_addInstruction 25 = .ok (.iload_n 1, 1) := by decide +kernel
theorem dX3_addInstruction_26 : decode cX3_addInstruction 26 = .ok (.iload_n 2, 1) := by decide +kernel
theorem dX3_addInstruction_27 : decode cX3_addInstruction 27 = .ok (.iload_n 3, 1) := by decide +kernel
theorem dX3_addInstruction_28 : decode cX3_addInstruction 28 = .ok (.invokespecial 64, 3) := by decide +kernel
theorem dX3_addInstruction_31 : decode cX3_addInstruction 31 = .ok (.aastore, 1) := by decide +kernel
theorem dX3_addInstruction_32 : decode cX3_addInstruction 32 = .ok (.aload_n 0, 1) := by decide +kernel
theorem dX3_addInstruction_33 : decode cX3_addInstruction 33 = .ok (.dup, 1) := by decide +kernel
theorem dX3_addInstruction_34 : decode cX3_addInstruction 34 = .ok (.getfield 50, 3) := by decide +kernel
theorem dX3_addInstruction_37 : decode cX3_addInstruction 37 = .ok (.iconst 1, 1) := by decide +kernel
theorem dX3_addInstruction_38 : decode cX3_addInstruction 38 = .ok (.iadd, 1) := by decide +kernel
theorem dX3_addInstruction_39 : decode cX3_addInstruction 39 = .ok (.putfield 50, 3) := by decide +kernel
theorem dX3_addInstruction_42 : decode cX3_addInstruction 42 = .ok (.aload_n 0, 1) := by decide +kernel
theorem dX3_addInstruction_43 : decode cX3_addInstruction 43 = .ok (.iconst 0, 1) := by decide +kernel
theorem dX3_addInstruction_44 : decode cX3_addInstruction 44 = .ok (.putfield 57, 3) := by decide +kernel
theorem dX3_addInstruction_47 : decode cX3_addInstruction 47 = .ok (.aload_n 0, 1) := by decide +kernel
theorem dX3_addInstruction_48 : decode cX3_addInstruction 48 = .ok (.getfield 50, 3) := by decide +kernel
theorem dX3_addInstruction_51 : decode cX3_addInstruction 51 = .ok (.iconst 1, 1) := by decide +kernel
theorem dX3_addInstruction_52 : decode cX3_addInstruction 52 = .ok (.isub, 1) := by decide +kernel
theorem dX3_addInstruction_53 : decode cX3_addInstruction 53 = .ok (.ireturn, 1) := by decide +kernel
theorem dX3_instructionAt_0 : decode cX3_instructionAt 0 = .ok (.iload_n 1, 1) := by decide +kernel
theorem dX3_instructionAt_1 : decode cX3_instructionAt 1 = .ok (.ifCond .lt 27, 3) := by decide +kernel
theorem dX3_instructionAt_4 : decode cX3_instructionAt 4 = .ok (.iload_n 1, 1) := by decide +kernel
theorem dX3_instructionAt_5 : decode cX3_instructionAt 5 = .ok (.aload_n 0, 1) := by decide +kernel
theorem dX3_instructionAt_6 : decode cX3_instructionAt 6 = .ok (.getfield 50, 3) := by decide +kernel
theorem dX3_instructionAt_9 : decode cX3_instructionAt 9 = .ok (.if_icmp .ge 19, 3) := by decide +kernel
theorem dX3_instructionAt_12 : decode cX3_instructionAt 12 = .ok (.iload_n 1, 1) := by decide +kernel
theorem dX3_instructionAt_13 : decode cX3_instructionAt 13 = .ok (.sipush 200, 3) := by decide +kernel
theorem dX3_instructionAt_16 : decode cX3_instructionAt 16 = .ok (.if_icmp .ge 12, 3) := by decide +kernel
theorem dX3_instructionAt_19 : decode cX3_instructionAt 19 = .ok (.aload_n 0, 1) := by decide +kernel
theorem dX3_instructionAt_20 : decode cX3_instructionAt 20 = .ok (.getfield 17, 3) := by decide +kernel
theorem dX3_instructionAt_23 : decode cX3_instructionAt 23 = .ok (.iload_n 1, 1) := by decide +kernel
theorem dX3_instructionAt_24 : decode cX3_instructionAt 24 = .ok (.aaload, 1) := by decide +kernel
theorem dX3_instructionAt_25 : decode cX3_instructionAt 25 = .ok (.goto 4, 3) := by decide +kernel
theorem dX3_instructionAt_28 : decode cX3_instructionAt 28 = .ok (.aconst_null, 1) := by decide +kernel
theorem dX3_instructionAt_29 : decode cX3_instructionAt 29 = .ok (.areturn, 1) := by decide +kernel
theorem dX3_addHandler_0 : decode cX3_addHandler 0 = .ok (.aload_n 0, 1) := by decide +kernel
theorem dX3_addHandler_1 : decode cX3_addHandler 1 = .ok (.getfield 67, 3) := by decide +kernel
theorem dX3_addHandler_4 : decode cX3_addHandler 4 = .ok (.bipush 8, 2) := by decide +kernel
theorem dX3_addHandler_6 : decode cX3_addHandler 6 = .ok (.if_icmp .lt 6, 3) := by decide +kernel
theorem dX3_addHandler_9 : decode cX3_addHandler 9 = .ok (.bipush (-2), 2) := by decide +kernel
theorem dX3_addHandler_11 : decode cX3_addHandler 11 = .ok (.ireturn, 1) := by decide +kernel
theorem dX3_addHandler_12 : decode cX3_addHandler 12 = .ok (.aload_n 0, 1) := by decide +kernel
theorem dX3_addHandler_13 : decode cX3_addHandler 13 = .ok (.getfield 23, 3) := by decide +kernel
theorem dX3_addHandler_16 : decode cX3_addHandler 16 = .ok (.aload_n 0, 1) := by decide +kernel
theorem dX3_addHandler_17 : decode cX3_addHandler 17 = .ok (.getfield 67, 3) := by decide +kernel
theorem dX3_addHandler_20 : decode cX3_addHandler 20 = .ok (.new 21, 3) := by decide +kernel
theorem dX3_addHandler_23 : decode cX3_addHandler 23 = .ok (.dup, 1) := by decide +kernel
theorem dX3_addHandler_24 : decode cX3_addHandler 24 = .ok (.iload_n 1, 1) := by decide +kernel
theorem dX3_addHandler_25 : decode cX3_addHandler 25 = .ok (.iload_n 2, 1) := by decide +kernel
theorem dX3_addHandler_26 : decode cX3_addHandler 26 = .ok (.iload_n 3, 1) := by decide +kernel
theorem dX3_addHandler_27 : decode cX3_addHandler 27 = .ok (.iload 4, 2) := by decide +kernel
theorem dX3_addHandler_29 : decode cX3_addHandler 29 = .ok (.invokespecial 70, 3) := by decide +kernel
theorem dX3_addHandler_32 : decode cX3_addHandler 32 = .ok (.aastore, 1) := by decide +kernel
theorem dX3_addHandler_33 : decode cX3_addHandler 33 = .ok (.aload_n 0, 1) := by decide +kernel
theorem dX3_addHandler_34 : decode cX3_addHandler 34 = .ok (.dup, 1) := by decide +kernel
theorem dX3_addHandler_35 : decode cX3_addHandler 35 = .ok (.getfield 67, 3) := by decide +kernel
theorem dX3_addHandler_38 : decode cX3_addHandler 38 = .ok (.iconst 1, 1) := by decide +kernel
theorem dX3_addHandler_39 : decode cX3_addHandler 39 = .ok (.iadd, 1) := by decide +kernel
theorem dX3_addHandler_40 : decode cX3_addHandler 40 = .ok (.putfield 67, 3) := by decide +kernel
theorem dX3_addHandler_43 : decode cX3_addHandler 43 = .ok (.aload_n 0, 1) := by decide +kernel
theorem dX3_addHandler_44 : decode cX3_addHandler 44 = .ok (.iconst 0, 1) := by decide +kernel
theorem dX3_addHandler_45 : decode cX3_addHandler 45 = .ok (.putfield 57, 3) := by decide +kernel
theorem dX3_addHandler_48 : decode cX3_addHandler 48 = .ok (.aload_n 0, 1) := by decide +kernel
theorem dX3_addHandler_49 : decode cX3_addHandler 49 = .ok (.getfield 67, 3) := by decide +kernel
theorem dX3_addHandler_52 : decode cX3_addHandler 52 = .ok (.iconst 1, 1) := by decide +kernel
theorem dX3_addHandler_53 : decode cX3_addHandler 53 = .ok (.isub, 1) := by decide +kernel
theorem dX3_addHandler_54 : decode cX3_addHandler 54 = .ok (.ireturn, 1) := by decide +kernel
theorem dX3_handlerAt_0 : decode cX3_handlerAt 0 = .ok (.iload_n 1, 1) := by decide +kernel
theorem dX3_handlerAt_1 : decode cX3_handlerAt 1 = .ok (.ifCond .lt 26, 3) := by decide +kernel
theorem dX3_handlerAt_4 : decode cX3_handlerAt 4 = .ok (.iload_n 1, 1) := by decide +kernel
theorem dX3_handlerAt_5 : decode cX3_handlerAt 5 = .ok (.aload_n 0, 1) := by decide +kernel
theorem dX3_handlerAt_6 : decode cX3_handlerAt 6 = .ok (.getfield 67, 3) := by decide +kernel
theorem dX3_handlerAt_9 : decode cX3_handlerAt 9 = .ok (.if_icmp .ge 18, 3) := by decide +kernel
theorem dX3_handlerAt_12 : decode cX3_handlerAt 12 = .ok (.iload_n 1, 1) := by decide +kernel
theorem dX3_handlerAt_13 : decode cX3_handlerAt 13 = .ok (.bipush 8, 2) := by decide +kernel
theorem dX3_handlerAt_15 : decode cX3_handlerAt 15 = .ok (.if_icmp .ge 12, 3) := by decide +kernel
theorem dX3_handlerAt_18 : decode cX3_handlerAt 18 = .ok (.aload_n 0, 1) := by decide +kernel
theorem dX3_handlerAt_19 : decode cX3_handlerAt 19 = .ok (.getfield 23, 3) := by decide +kernel
theorem dX3_handlerAt_22 : decode cX3_handlerAt 22 = .ok (.iload_n 1, 1) := by decide +kernel
theorem dX3_handlerAt_23 : decode cX3_handlerAt 23 = .ok (.aaload, 1) := by decide +kernel
theorem dX3_handlerAt_24 : decode cX3_handlerAt 24 = .ok (.goto 4, 3) := by decide +kernel
theorem dX3_handlerAt_27 : decode cX3_handlerAt 27 = .ok (.aconst_null, 1) := by decide +kernel
theorem dX3_handlerAt_28 : decode cX3_handlerAt 28 = .ok (.areturn, 1) := by decide +kernel
theorem dX4_init_0 : decode cX4_init 0 = .ok (.aload_n 0, 1) := by decide +kernel
theorem dX4_init_1 : decode cX4_init 1 = .ok (.invokespecial 3, 3) := by decide +kernel
theorem dX4_init_4 : decode cX4_init 4 = .ok (.aload_n 0, 1) := by decide +kernel
theorem dX4_init_5 : decode cX4_init 5 = .ok (.bipush 12, 2) := by decide +kernel
theorem dX4_init_7 : decode cX4_init 7 = .ok (.newarray .int, 2) := by decide +kernel
theorem dX4_init_9 : decode cX4_init 9 = .ok (.putfield 9, 3) := by decide +kernel
theorem dX4_init_12 : decode cX4_init 12 = .ok (.return_, 1) := by decide +kernel
theorem dX4_begin_0 : decode cX4_begin 0 = .ok (.aload_n 0, 1) := by decide +kernel
theorem dX4_begin_1 : decode cX4_begin 1 = .ok (.aload_n 1, 1) := by decide +kernel
theorem dX4_begin_2 : decode cX4_begin 2 = .ok (.getfield 15, 3) := by decide +kernel
theorem dX4_begin_5 : decode cX4_begin 5 = .ok (.putfield 21, 3) := by decide +kernel
theorem dX4_begin_8 : decode cX4_begin 8 = .ok (.aload_n 0, 1) := by decide +kernel
theorem dX4_begin_9 : decode cX4_begin 9 = .ok (.aload_n 1, 1) := by decide +kernel
theorem dX4_begin_10 : decode cX4_begin 10 = .ok (.getfield 22, 3) := by decide +kernel
theorem dX4_begin_13 : decode cX4_begin 13 = .ok (.putfield 25, 3) := by decide +kernel
theorem dX4_begin_16 : decode cX4_begin 16 = .ok (.aload_n 0, 1) := by decide +kernel
theorem dX4_begin_17 : decode cX4_begin 17 = .ok (.iconst 0, 1) := by decide +kernel
theorem dX4_begin_18 : decode cX4_begin 18 = .ok (.putfield 28, 3) := by decide +kernel
theorem dX4_begin_21 : decode cX4_begin 21 = .ok (.iconst 0, 1) := by decide +kernel
theorem dX4_begin_22 : decode cX4_begin 22 = .ok (.istore_n 2, 1) := by decide +kernel
theorem dX4_begin_23 : decode cX4_begin 23 = .ok (.iload_n 2, 1) := by decide +kernel
theorem dX4_begin_24 : decode cX4_begin 24 = .ok (.aload_n 0, 1) := by decide +kernel
theorem dX4_begin_25 : decode cX4_begin 25 = .ok (.getfield 21, 3) := by decide +kernel
theorem dX4_begin_28 : decode cX4_begin 28 = .ok (.if_icmp .ge 39, 3) := by decide +kernel
theorem dX4_begin_31 : decode cX4_begin 31 = .ok (.iload_n 2, 1) := by decide +kernel
theorem dX4_begin_32 : decode cX4_begin 32 = .ok (.bipush 12, 2) := by decide +kernel
theorem dX4_begin_34 : decode cX4_begin 34 = .ok (.if_icmp .ge 33, 3) := by decide +kernel
theorem dX4_begin_37 : decode cX4_begin 37 = .ok (.aload_n 0, 1) := by decide +kernel
theorem dX4_begin_38 : decode cX4_begin 38 = .ok (.getfield 9, 3) := by decide +kernel
theorem dX4_begin_41 : decode cX4_begin 41 = .ok (.iload_n 2, 1) := by decide +kernel
theorem dX4_begin_42 : decode cX4_begin 42 = .ok (.iload_n 2, 1) := by decide +kernel
theorem dX4_begin_43 : decode cX4_begin 43 = .ok (.aload_n 1, 1) := by decide +kernel
theorem dX4_begin_44 : decode cX4_begin 44 = .ok (.getfield 31, 3) := by decide +kernel
theorem dX4_begin_47 : decode cX4_begin 47 = .ok (.if_icmp .ge 11, 3) := by decide +kernel
theorem dX4_begin_50 : decode cX4_begin 50 = .ok (.aload_n 1, 1) := by decide +kernel
theorem dX4_begin_51 : decode cX4_begin 51 = .ok (.iload_n 2, 1) := by decide +kernel
theorem dX4_begin_52 : decode cX4_begin 52 = .ok (.invokevirtual 34, 3) := by decide +kernel
theorem dX4_begin_55 : decode cX4_begin 55 = .ok (.goto 5, 3) := by decide +kernel
theorem dX4_begin_58 : decode cX4_begin 58 = .ok (.bipush 99, 2) := by decide +kernel
theorem dX4_begin_60 : decode cX4_begin 60 = .ok (.iastore, 1) := by decide +kernel
theorem dX4_begin_61 : decode cX4_begin 61 = .ok (.iinc 2 1, 3) := by decide +kernel
theorem dX4_begin_64 : decode cX4_begin 64 = .ok (.goto (-41), 3) := by decide +kernel
theorem dX4_begin_67 : decode cX4_begin 67 = .ok (.return_, 1) := by decide +kernel
theorem dX4_copy_0 : decode cX4_copy 0 = .ok (.aload_n 0, 1) := by decide +kernel
theorem dX4_copy_1 : decode cX4_copy 1 = .ok (.aload_n 1, 1) := by decide +kernel
theorem dX4_copy_2 : decode cX4_copy 2 = .ok (.getfield 21, 3) := by decide +kernel
theorem dX4_copy_5 : decode cX4_copy 5 = .ok (.putfield 21, 3) := by decide +kernel
theorem dX4_copy_8 : decode cX4_copy 8 = .ok (.aload_n 0, 1) := by decide +kernel
theorem dX4_copy_9 : decode cX4_copy 9 = .ok (.aload_n 1, 1) := by decide +kernel
theorem dX4_copy_10 : decode cX4_copy 10 = .ok (.getfield 25, 3) := by decide +kernel
theorem dX4_copy_13 : decode cX4_copy 13 = .ok (.putfield 25, 3) := by decide +kernel
theorem dX4_copy_16 : decode cX4_copy 16 = .ok (.aload_n 0, 1) := by decide +kernel
theorem dX4_copy_17 : decode cX4_copy 17 = .ok (.aload_n 1, 1) := by decide +kernel
theorem dX4_copy_18 : decode cX4_copy 18 = .ok (.getfield 28, 3) := by decide +kernel
theorem dX4_copy_21 : decode cX4_copy 21 = .ok (.putfield 28, 3) := by decide +kernel
theorem dX4_copy_24 : decode cX4_copy 24 = .ok (.iconst 0, 1) := by decide +kernel
theorem dX4_copy_25 : decode cX4_copy 25 = .ok (.istore_n 2, 1) := by decide +kernel
theorem dX4_copy_26 : decode cX4_copy 26 = .ok (.iload_n 2, 1) := by decide +kernel
theorem dX4_copy_27 : decode cX4_copy 27 = .ok (.bipush 12, 2) := by decide +kernel
theorem dX4_copy_29 : decode cX4_copy 29 = .ok (.if_icmp .ge 21, 3) := by decide +kernel
theorem dX4_copy_32 : decode cX4_copy 32 = .ok (.aload_n 0, 1) := by decide +kernel
theorem dX4_copy_33 : decode cX4_copy 33 = .ok (.getfield 9, 3) := by decide +kernel
theorem dX4_copy_36 : decode cX4_copy 36 = .ok (.iload_n 2, 1) := by decide +kernel
theorem dX4_copy_37 : decode cX4_copy 37 = .ok (.aload_n 1, 1) := by decide +kernel
theorem dX4_copy_38 : decode cX4_copy 38 = .ok (.getfield 9, 3) := by decide +kernel
theorem dX4_copy_41 : decode cX4_copy 41 = .ok (.iload_n 2, 1) := by decide +kernel
theorem dX4_copy_42 : decode cX4_copy 42 = .ok (.iaload, 1) := by decide +kernel
theorem dX4_copy_43 : decode cX4_copy 43 = .ok (.iastore, 1) := by decide +kernel
theorem dX4_copy_44 : decode cX4_copy 44 = .ok (.iinc 2 1, 3) := by decide +kernel
theorem dX4_copy_47 : decode cX4_copy 47 = .ok (.goto (-21), 3) := by decide +kernel
theorem dX4_copy_50 : decode cX4_copy 50 = .ok (.return_, 1) := by decide +kernel
theorem dX4_localAt_0 : decode cX4_localAt 0 = .ok (.iload_n 1, 1) := by decide +kernel
theorem dX4_localAt_1 : decode cX4_localAt 1 = .ok (.ifCond .lt 26, 3) := by decide +kernel
theorem dX4_localAt_4 : decode cX4_localAt 4 = .ok (.iload_n 1, 1) := by decide +kernel
theorem dX4_localAt_5 : decode cX4_localAt 5 = .ok (.aload_n 0, 1) := by decide +kernel
theorem dX4_localAt_6 : decode cX4_localAt 6 = .ok (.getfield 21, 3) := by decide +kernel
theorem dX4_localAt_9 : decode cX4_localAt 9 = .ok (.if_icmp .ge 18, 3) := by decide +kernel
theorem dX4_localAt_12 : decode cX4_localAt 12 = .ok (.iload_n 1, 1) := by decide +kernel
theorem dX4_localAt_13 : decode cX4_localAt 13 = .ok (.bipush 12, 2) := by decide +kernel
theorem dX4_localAt_15 : decode cX4_localAt 15 = .ok (.if_icmp .ge 12, 3) := by decide +kernel
theorem dX4_localAt_18 : decode cX4_localAt 18 = .ok (.aload_n 0, 1) := by decide +kernel
theorem dX4_localAt_19 : decode cX4_localAt 19 = .ok (.getfield 9, 3) := by decide +kernel
theorem dX4_localAt_22 : decode cX4_localAt 22 = .ok (.iload_n 1, 1) := by decide +kernel
theorem dX4_localAt_23 : decode cX4_localAt 23 = .ok (.iaload, 1) := by decide +kernel
theorem dX4_localAt_24 : decode cX4_localAt 24 = .ok (.goto 4, 3) := by decide +kernel
theorem dX4_localAt_27 : decode cX4_localAt 27 = .ok (.iconst (-1), 1) := by decide +kernel
theorem dX4_localAt_28 : decode cX4_localAt 28 = .ok (.ireturn, 1) := by decide +kernel
theorem dX4_setLocal_0 : decode cX4_setLocal 0 = .ok (.iload_n 1, 1) := by decide +kernel
theorem dX4_setLocal_1 : decode cX4_setLocal 1 = .ok (.ifCond .lt 24, 3) := by decide +kernel
theorem dX4_setLocal_4 : decode cX4_setLocal 4 = .ok (.iload_n 1, 1) := by decide +kernel
theorem dX4_setLocal_5 : decode cX4_setLocal 5 = .ok (.aload_n 0, 1) := by decide +kernel
theorem dX4_setLocal_6 : decode cX4_setLocal 6 = .ok (.getfield 21, 3) := by decide +kernel
theorem dX4_setLocal_9 : decode cX4_setLocal 9 = .ok (.if_icmp .ge 16, 3) := by decide +kernel
theorem dX4_setLocal_12 : decode cX4_setLocal 12 = .ok (.iload_n 1, 1) := by decide +kernel
theorem dX4_setLocal_13 : decode cX4_setLocal 13 = .ok (.bipush 12, 2) := by decide +kernel
theorem dX4_setLocal_15 : decode cX4_setLocal 15 = .ok (.if_icmp .ge 10, 3) := by decide +kernel
theorem dX4_setLocal_18 : decode cX4_setLocal 18 = .ok (.aload_n 0, 1) := by decide +kernel
theorem dX4_setLocal_19 : decode cX4_setLocal 19 = .ok (.getfield 9, 3) := by decide +kernel
theorem dX4_setLocal_22 : decode cX4_setLocal 22 = .ok (.iload_n 1, 1) := by decide +kernel
theorem dX4_setLocal_23 : decode cX4_setLocal 23 = .ok (.iload_n 2, 1) := by decide +kernel
theorem dX4_setLocal_24 : decode cX4_setLocal 24 = .ok (.iastore, 1) := by decide +kernel
theorem dX4_setLocal_25 : decode cX4_setLocal 25 = .ok (.return_, 1) := by decide +kernel
theorem dX4_placeAt_0 : decode cX4_placeAt 0 = .ok (.iload_n 1, 1) := by decide +kernel
theorem dX4_placeAt_1 : decode cX4_placeAt 1 = .ok (.ifCond .lt 11, 3) := by decide +kernel
theorem dX4_placeAt_4 : decode cX4_placeAt 4 = .ok (.iload_n 1, 1) := by decide +kernel
theorem dX4_placeAt_5 : decode cX4_placeAt 5 = .ok (.aload_n 0, 1) := by decide +kernel
theorem dX4_placeAt_6 : decode cX4_placeAt 6 = .ok (.getfield 28, 3) := by decide +kernel
theorem dX4_placeAt_9 : decode cX4_placeAt 9 = .ok (.if_icmp .lt 5, 3) := by decide +kernel
theorem dX4_placeAt_12 : decode cX4_placeAt 12 = .ok (.iconst (-1), 1) := by decide +kernel
theorem dX4_placeAt_13 : decode cX4_placeAt 13 = .ok (.ireturn, 1) := by decide +kernel
theorem dX4_placeAt_14 : decode cX4_placeAt 14 = .ok (.aload_n 0, 1) := by decide +kernel
theorem dX4_placeAt_15 : decode cX4_placeAt 15 = .ok (.getfield 21, 3) := by decide +kernel
theorem dX4_placeAt_18 : decode cX4_placeAt 18 = .ok (.iload_n 1, 1) := by decide +kernel
theorem dX4_placeAt_19 : decode cX4_placeAt 19 = .ok (.iadd, 1) := by decide +kernel
theorem dX4_placeAt_20 : decode cX4_placeAt 20 = .ok (.istore_n 2, 1) := by decide +kernel
theorem dX4_placeAt_21 : decode cX4_placeAt 21 = .ok (.iload_n 2, 1) := by decide +kernel
theorem dX4_placeAt_22 : decode cX4_placeAt 22 = .ok (.ifCond .lt 18, 3) := by decide +kernel
theorem dX4_placeAt_25 : decode cX4_placeAt 25 = .ok (.iload_n 2, 1) := by decide +kernel
theorem dX4_placeAt_26 : decode cX4_placeAt 26 = .ok (.bipush 12, 2) := by decide +kernel
theorem dX4_placeAt_28 : decode cX4_placeAt 28 = .ok (.if_icmp .ge 12, 3) := by decide +kernel
theorem dX4_placeAt_31 : decode cX4_placeAt 31 = .ok (.aload_n 0, 1) := by decide +kernel
theorem dX4_placeAt_32 : decode cX4_placeAt 32 = .ok (.getfield 9, 3) := by decide +kernel
theorem dX4_placeAt_35 : decode cX4_placeAt 35 = .ok (.iload_n 2, 1) := by decide +kernel
theorem dX4_placeAt_36 : decode cX4_placeAt 36 = .ok (.iaload, 1) := by decide +kernel
theorem dX4_placeAt_37 : decode cX4_placeAt 37 = .ok (.goto 4, 3) := by decide +kernel
theorem dX4_placeAt_40 : decode cX4_placeAt 40 = .ok (.iconst (-1), 1) := by decide +kernel
theorem dX4_placeAt_41 : decode cX4_placeAt 41 = .ok (.ireturn, 1) := by decide +kernel
theorem dX4_put_0 : decode cX4_put 0 = .ok (.aload_n 0, 1) := by decide +kernel
theorem dX4_put_1 : decode cX4_put 1 = .ok (.getfield 21, 3) := by decide +kernel
theorem dX4_put_4 : decode cX4_put 4 = .ok (.aload_n 0, 1) := by decide +kernel
theorem dX4_put_5 : decode cX4_put 5 = .ok (.getfield 28, 3) := by decide +kernel
theorem dX4_put_8 : decode cX4_put 8 = .ok (.iadd, 1) := by decide +kernel
theorem dX4_put_9 : decode cX4_put 9 = .ok (.istore_n 2, 1) := by decide +kernel
theorem dX4_put_10 : decode cX4_put 10 = .ok (.aload_n 0, 1) := by decide +kernel
theorem dX4_put_11 : decode cX4_put 11 = .ok (.getfield 28, 3) := by decide +kernel
theorem dX4_put_14 : decode cX4_put 14 = .ok (.aload_n 0, 1) := by decide +kernel
theorem dX4_put_15 : decode cX4_put 15 = .ok (.getfield 25, 3) := by decide +kernel
theorem dX4_put_18 : decode cX4_put 18 = .ok (.if_icmp .ge 13, 3) := by decide +kernel
theorem dX4_put_21 : decode cX4_put 21 = .ok (.iload_n 2, 1) := by decide +kernel
theorem dX4_put_22 : decode cX4_put 22 = .ok (.ifCond .lt 9, 3) := by decide +kernel
theorem dX4_put_25 : decode cX4_put 25 = .ok (.iload_n 2, 1) := by decide +kernel
theorem dX4_put_26 : decode cX4_put 26 = .ok (.bipush 12, 2) := by decide +kernel
theorem dX4_put_28 : decode cX4_put 28 = .ok (.if_icmp .lt 5, 3) := by decide +kernel
theorem dX4_put_31 : decode cX4_put 31 = .ok (.iconst 0, 1) := by decide +kernel
theorem dX4_put_32 : decode cX4_put 32 = .ok (.ireturn, 1) := by decide +kernel
theorem dX4_put_33 : decode cX4_put 33 = .ok (.aload_n 0, 1) := by decide +kernel
theorem dX4_put_34 : decode cX4_put 34 = .ok (.getfield 9, 3) := by decide +kernel
theorem dX4_put_37 : decode cX4_put 37 = .ok (.iload_n 2, 1) := by decide +kernel
theorem dX4_put_38 : decode cX4_put 38 = .ok (.iload_n 1, 1) := by decide +kernel
theorem dX4_put_39 : decode cX4_put 39 = .ok (.iastore, 1) := by decide +kernel
theorem dX4_put_40 : decode cX4_put 40 = .ok (.aload_n 0, 1) := by decide +kernel
theorem dX4_put_41 : decode cX4_put 41 = .ok (.dup, 1) := by decide +kernel
theorem dX4_put_42 : decode cX4_put 42 = .ok (.getfield 28, 3) := by decide +kernel
theorem dX4_put_45 : decode cX4_put 45 = .ok (.iconst 1, 1) := by decide +kernel
theorem dX4_put_46 : decode cX4_put 46 = .ok (.iadd, 1) := by decide +kernel
theorem dX4_put_47 : decode cX4_put 47 = .ok (.putfield 28, 3) := by decide +kernel
theorem dX4_put_50 : decode cX4_put 50 = .ok (.iconst 1, 1) := by decide +kernel
theorem dX4_put_51 : decode cX4_put 51 = .ok (.ireturn, 1) := by decide +kernel
theorem dX4_meet_0 : decode cX4_meet 0 = .ok (.aload_n 0, 1) := by decide +kernel
theorem dX4_meet_1 : decode cX4_meet 1 = .ok (.getfield 28, 3) := by decide +kernel
theorem dX4_meet_4 : decode cX4_meet 4 = .ok (.aload_n 1, 1) := by decide +kernel
theorem dX4_meet_5 : decode cX4_meet 5 = .ok (.getfield 28, 3) := by decide +kernel
theorem dX4_meet_8 : decode cX4_meet 8 = .ok (.if_icmp .eq 5, 3) := by decide +kernel
theorem dX4_meet_11 : decode cX4_meet 11 = .ok (.iconst 2, 1) := by decide +kernel
theorem dX4_meet_12 : decode cX4_meet 12 = .ok (.ireturn, 1) := by decide +kernel
theorem dX4_meet_13 : decode cX4_meet 13 = .ok (.iconst 0, 1) := by decide +kernel
theorem dX4_meet_14 : decode cX4_meet 14 = .ok (.istore_n 3, 1) := by decide +kernel
theorem dX4_meet_15 : decode cX4_meet 15 = .ok (.iconst 0, 1) := by decide +kernel
theorem dX4_meet_16 : decode cX4_meet 16 = .ok (.istore 4, 2) := by decide +kernel
theorem dX4_meet_18 : decode cX4_meet 18 = .ok (.iload 4, 2) := by decide +kernel
theorem dX4_meet_20 : decode cX4_meet 20 = .ok (.aload_n 0, 1) := by decide +kernel
theorem dX4_meet_21 : decode cX4_meet 21 = .ok (.getfield 21, 3) := by decide +kernel
theorem dX4_meet_24 : decode cX4_meet 24 = .ok (.aload_n 0, 1) := by decide +kernel
theorem dX4_meet_25 : decode cX4_meet 25 = .ok (.getfield 28, 3) := by decide +kernel
theorem dX4_meet_28 : decode cX4_meet 28 = .ok (.iadd, 1) := by decide +kernel
theorem dX4_meet_29 : decode cX4_meet 29 = .ok (.if_icmp .ge 77, 3) := by decide +kernel
theorem dX4_meet_32 : decode cX4_meet 32 = .ok (.iload 4, 2) := by decide +kernel
theorem dX4_meet_34 : decode cX4_meet 34 = .ok (.bipush 12, 2) := by decide +kernel
theorem dX4_meet_36 : decode cX4_meet 36 = .ok (.if_icmp .ge 70, 3) := by decide +kernel
theorem dX4_meet_39 : decode cX4_meet 39 = .ok (.aload_n 2, 1) := by decide +kernel
theorem dX4_meet_40 : decode cX4_meet 40 = .ok (.aload_n 0, 1) := by decide +kernel
theorem dX4_meet_41 : decode cX4_meet 41 = .ok (.getfield 9, 3) := by decide +kernel
theorem dX4_meet_44 : decode cX4_meet 44 = .ok (.iload 4, 2) := by decide +kernel
theorem dX4_meet_46 : decode cX4_meet 46 = .ok (.iaload, 1) := by decide +kernel
theorem dX4_meet_47 : decode cX4_meet 47 = .ok (.aload_n 1, 1) := by decide +kernel
theorem dX4_meet_48 : decode cX4_meet 48 = .ok (.getfield 9, 3) := by decide +kernel
theorem dX4_meet_51 : decode cX4_meet 51 = .ok (.iload 4, 2) := by decide +kernel
theorem dX4_meet_53 : decode cX4_meet 53 = .ok (.iaload, 1) := by decide +kernel
theorem dX4_meet_54 : decode cX4_meet 54 = .ok (.invokevirtual 38, 3) := by decide +kernel
theorem dX4_meet_57 : decode cX4_meet 57 = .ok (.istore 5, 2) := by decide +kernel
theorem dX4_meet_59 : decode cX4_meet 59 = .ok (.iload 4, 2) := by decide +kernel
theorem dX4_meet_61 : decode cX4_meet 61 = .ok (.aload_n 0, 1) := by decide +kernel
theorem dX4_meet_62 : decode cX4_meet 62 = .ok (.getfield 21, 3) := by decide +kernel
theorem dX4_meet_65 : decode cX4_meet 65 = .ok (.if_icmp .lt 12, 3) := by decide +kernel
theorem dX4_meet_68 : decode cX4_meet 68 = .ok (.iload 5, 2) := by decide +kernel
theorem dX4_meet_70 : decode cX4_meet 70 = .ok (.bipush 99, 2) := by decide +kernel
theorem dX4_meet_72 : decode cX4_meet 72 = .ok (.if_icmp .ne 5, 3) := by decide +kernel
theorem dX4_meet_75 : decode cX4_meet 75 = .ok (.iconst 2, 1) := by decide +kernel
theorem dX4_meet_76 : decode cX4_meet 76 = .ok (.ireturn, 1) := by decide +kernel
theorem dX4_meet_77 : decode cX4_meet 77 = .ok (.iload 5, 2) := by decide +kernel
theorem dX4_meet_79 : decode cX4_meet 79 = .ok (.aload_n 0, 1) := by decide +kernel
theorem dX4_meet_80 : decode cX4_meet 80 = .ok (.getfield 9, 3) := by decide +kernel
theorem dX4_meet_83 : decode cX4_meet 83 = .ok (.iload 4, 2) := by decide +kernel
theorem dX4_meet_85 : decode cX4_meet 85 = .ok (.iaload, 1) := by decide +kernel
theorem dX4_meet_86 : decode cX4_meet 86 = .ok (.if_icmp .eq 14, 3) := by decide +kernel
theorem dX4_meet_89 : decode cX4_meet 89 = .ok (.aload_n 0, 1) := by decide +kernel
theorem dX4_meet_90 : decode cX4_meet 90 = .ok (.getfield 9, 3) := by decide +kernel
theorem dX4_meet_93 : decode cX4_meet 93 = .ok (.iload 4, 2) := by decide +kernel
theorem dX4_meet_95 : decode cX4_meet 95 = .ok (.iload 5, 2) := by decide +kernel
theorem dX4_meet_97 : decode cX4_meet 97 = .ok (.iastore, 1) := by decide +kernel
theorem dX4_meet_98 : decode cX4_meet 98 = .ok (.iconst 1, 1) := by decide +kernel
theorem dX4_meet_99 : decode cX4_meet 99 = .ok (.istore_n 3, 1) := by decide +kernel
theorem dX4_meet_100 : decode cX4_meet 100 = .ok (.iinc 4 1, 3) := by decide +kernel
theorem dX4_meet_103 : decode cX4_meet 103 = .ok (.goto (-85), 3) := by decide +kernel
theorem dX4_meet_106 : decode cX4_meet 106 = .ok (.iload_n 3, 1) := by decide +kernel
theorem dX4_meet_107 : decode cX4_meet 107 = .ok (.ireturn, 1) := by decide +kernel
theorem dX5_init_0 : decode cX5_init 0 = .ok (.aload_n 0, 1) := by decide +kernel
theorem dX5_init_1 : decode cX5_init 1 = .ok (.invokespecial 3, 3) := by decide +kernel
theorem dX5_init_4 : decode cX5_init 4 = .ok (.aload_n 0, 1) := by decide +kernel
theorem dX5_init_5 : decode cX5_init 5 = .ok (.aload_n 1, 1) := by decide +kernel
theorem dX5_init_6 : decode cX5_init 6 = .ok (.putfield 9, 3) := by decide +kernel
theorem dX5_init_9 : decode cX5_init 9 = .ok (.aload_n 0, 1) := by decide +kernel
theorem dX5_init_10 : decode cX5_init 10 = .ok (.aload_n 2, 1) := by decide +kernel
theorem dX5_init_11 : decode cX5_init 11 = .ok (.putfield 15, 3) := by decide +kernel
theorem dX5_init_14 : decode cX5_init 14 = .ok (.return_, 1) := by decide +kernel
theorem dX5_perform_0 : decode cX5_perform 0 = .ok (.aload_n 0, 1) := by decide +kernel
theorem dX5_perform_1 : decode cX5_perform 1 = .ok (.iconst 1, 1) := by decide +kernel
theorem dX5_perform_2 : decode cX5_perform 2 = .ok (.putfield 19, 3) := by decide +kernel
theorem dX5_perform_5 : decode cX5_perform 5 = .ok (.aload_n 2, 1) := by decide +kernel
theorem dX5_perform_6 : decode cX5_perform 6 = .ok (.getfield 23, 3) := by decide +kernel
theorem dX5_perform_9 : decode cX5_perform 9 = .ok (.bipush 6, 2) := by decide +kernel
theorem dX5_perform_11 : decode cX5_perform 11 = .ok (.if_icmp .gt 11, 3) := by decide +kernel
theorem dX5_perform_14 : decode cX5_perform 14 = .ok (.aload_n 0, 1) := by decide +kernel
theorem dX5_perform_15 : decode cX5_perform 15 = .ok (.aload_n 2, 1) := by decide +kernel
theorem dX5_perform_16 : decode cX5_perform 16 = .ok (.invokevirtual 29, 3) := by decide +kernel
theorem dX5_perform_19 : decode cX5_perform 19 = .ok (.goto 103, 3) := by decide +kernel
theorem dX5_perform_22 : decode cX5_perform 22 = .ok (.aload_n 2, 1) := by decide +kernel
theorem dX5_perform_23 : decode cX5_perform 23 = .ok (.getfield 23, 3) := by decide +kernel
theorem dX5_perform_26 : decode cX5_perform 26 = .ok (.bipush 18, 2) := by decide +kernel
theorem dX5_perform_28 : decode cX5_perform 28 = .ok (.if_icmp .gt 14, 3) := by decide +kernel
theorem dX5_perform_31 : decode cX5_perform 31 = .ok (.aload_n 0, 1) := by decide +kernel
theorem dX5_perform_32 : decode cX5_perform 32 = .ok (.aload_n 2, 1) := by decide +kernel
theorem dX5_perform_33 : decode cX5_perform 33 = .ok (.getfield 23, 3) := by decide +kernel
theorem dX5_perform_36 : decode cX5_perform 36 = .ok (.invokevirtual 33, 3) := by decide +kernel
theorem dX5_perform_39 : decode cX5_perform 39 = .ok (.goto 83, 3) := by decide +kernel
theorem dX5_perform_42 : decode cX5_perform 42 = .ok (.aload_n 2, 1) := by decide +kernel
theorem dX5_perform_43 : decode cX5_perform 43 = .ok (.getfield 23, 3) := by decide +kernel
theorem dX5_perform_46 : decode cX5_perform 46 = .ok (.bipush 25, 2) := by decide +kernel
theorem dX5_perform_48 : decode cX5_perform 48 = .ok (.if_icmp .gt 14, 3) := by decide +kernel
theorem dX5_perform_51 : decode cX5_perform 51 = .ok (.aload_n 0, 1) := by decide +kernel
theorem dX5_perform_52 : decode cX5_perform 52 = .ok (.aload_n 2, 1) := by decide +kernel
theorem dX5_perform_53 : decode cX5_perform 53 = .ok (.getfield 23, 3) := by decide +kernel
theorem dX5_perform_56 : decode cX5_perform 56 = .ok (.invokevirtual 37, 3) := by decide +kernel
theorem dX5_perform_59 : decode cX5_perform 59 = .ok (.goto 63, 3) := by decide +kernel
theorem dX5_perform_62 : decode cX5_perform 62 = .ok (.aload_n 2, 1) := by decide +kernel
theorem dX5_perform_63 : decode cX5_perform 63 = .ok (.getfield 23, 3) := by decide +kernel
theorem dX5_perform_66 : decode cX5_perform 66 = .ok (.bipush 30, 2) := by decide +kernel
theorem dX5_perform_68 : decode cX5_perform 68 = .ok (.if_icmp .gt 11, 3) := by decide +kernel
theorem dX5_perform_71 : decode cX5_perform 71 = .ok (.aload_n 0, 1) := by decide +kernel
theorem dX5_perform_72 : decode cX5_perform 72 = .ok (.aload_n 2, 1) := by decide +kernel
theorem dX5_perform_73 : decode cX5_perform 73 = .ok (.invokevirtual 40, 3) := by decide +kernel
theorem dX5_perform_76 : decode cX5_perform 76 = .ok (.goto 46, 3) := by decide +kernel
theorem dX5_perform_79 : decode cX5_perform 79 = .ok (.aload_n 2, 1) := by decide +kernel
theorem dX5_perform_80 : decode cX5_perform 80 = .ok (.getfield 23, 3) := by decide +kernel
theorem dX5_perform_83 : decode cX5_perform 83 = .ok (.bipush 34, 2) := by decide +kernel
theorem dX5_perform_85 : decode cX5_perform 85 = .ok (.if_icmp .gt 11, 3) := by decide +kernel
theorem dX5_perform_88 : decode cX5_perform 88 = .ok (.aload_n 0, 1) := by decide +kernel
theorem dX5_perform_89 : decode cX5_perform 89 = .ok (.aload_n 2, 1) := by decide +kernel
theorem dX5_perform_90 : decode cX5_perform 90 = .ok (.invokevirtual 43, 3) := by decide +kernel
theorem dX5_perform_93 : decode cX5_perform 93 = .ok (.goto 29, 3) := by decide +kernel
theorem dX5_perform_96 : decode cX5_perform 96 = .ok (.aload_n 2, 1) := by decide +kernel
theorem dX5_perform_97 : decode cX5_perform 97 = .ok (.getfield 23, 3) := by decide +kernel
theorem dX5_perform_100 : decode cX5_perform 100 = .ok (.bipush 36, 2) := by decide +kernel
theorem dX5_perform_102 : decode cX5_perform 102 = .ok (.if_icmp .gt 11, 3) := by decide +kernel
theorem dX5_perform_105 : decode cX5_perform 105 = .ok (.aload_n 0, 1) := by decide +kernel
theorem dX5_perform_106 : decode cX5_perform 106 = .ok (.aload_n 2, 1) := by decide +kernel
theorem dX5_perform_107 : decode cX5_perform 107 = .ok (.invokevirtual 46, 3) := by decide +kernel
theorem dX5_perform_110 : decode cX5_perform 110 = .ok (.goto 12, 3) := by decide +kernel
theorem dX5_perform_113 : decode cX5_perform 113 = .ok (.aload_n 0, 1) := by decide +kernel
theorem dX5_perform_114 : decode cX5_perform 114 = .ok (.aload_n 1, 1) := by decide +kernel
theorem dX5_perform_115 : decode cX5_perform 115 = .ok (.aload_n 2, 1) := by decide +kernel
theorem dX5_perform_116 : decode cX5_perform 116 = .ok (.getfield 23, 3) := by decide +kernel
theorem dX5_perform_119 : decode cX5_perform 119 = .ok (.invokevirtual 49, 3) := by decide +kernel
theorem dX5_perform_122 : decode cX5_perform 122 = .ok (.aload_n 0, 1) := by decide +kernel
theorem dX5_perform_123 : decode cX5_perform 123 = .ok (.getfield 19, 3) := by decide +kernel
theorem dX5_perform_126 : decode cX5_perform 126 = .ok (.ireturn, 1) := by decide +kernel
theorem dX5_move_0 : decode cX5_move 0 = .ok (.aload_n 1, 1) := by decide +kernel
theorem dX5_move_1 : decode cX5_move 1 = .ok (.getfield 23, 3) := by decide +kernel
theorem dX5_move_4 : decode cX5_move 4 = .ok (.tableswitch 101 0 5 #[40, 48, 57, 68, 86, 94], 40) := by decide +kernel
theorem dX5_move_44 : decode cX5_move 44 = .ok (.aload_n 0, 1) := by decide +kernel
theorem dX5_move_45 : decode cX5_move 45 = .ok (.iconst 0, 1) := by decide +kernel
theorem dX5_move_46 : decode cX5_move 46 = .ok (.invokevirtual 53, 3) := by decide +kernel
theorem dX5_move_49 : decode cX5_move 49 = .ok (.goto 60, 3) := by decide +kernel
theorem dX5_move_52 : decode cX5_move 52 = .ok (.aload_n 0, 1) := by decide +kernel
theorem dX5_move_53 : decode cX5_move 53 = .ok (.bipush 97, 2) := by decide +kernel
theorem dX5_move_55 : decode cX5_move 55 = .ok (.invokevirtual 53, 3) := by decide +kernel
theorem dX5_move_58 : decode cX5_move 58 = .ok (.goto 51, 3) := by decide +kernel
theorem dX5_move_61 : decode cX5_move 61 = .ok (.aload_n 0, 1) := by decide +kernel
theorem dX5_move_62 : decode cX5_move 62 = .ok (.aload_n 1, 1) := by decide +kernel
theorem dX5_move_63 : decode cX5_move 63 = .ok (.getfield 56, 3) := by decide +kernel
theorem dX5_move_66 : decode cX5_move 66 = .ok (.invokevirtual 59, 3) := by decide +kernel
theorem dX5_move_69 : decode cX5_move 69 = .ok (.goto 40, 3) := by decide +kernel
theorem dX5_move_72 : decode cX5_move 72 = .ok (.aload_n 0, 1) := by decide +kernel
theorem dX5_move_73 : decode cX5_move 73 = .ok (.getfield 15, 3) := by decide +kernel
theorem dX5_move_76 : decode cX5_move 76 = .ok (.aload_n 1, 1) := by decide +kernel
theorem dX5_move_77 : decode cX5_move 77 = .ok (.getfield 56, 3) := by decide +kernel
theorem dX5_move_80 : decode cX5_move 80 = .ok (.aload_n 0, 1) := by decide +kernel
theorem dX5_move_81 : decode cX5_move 81 = .ok (.invokevirtual 62, 3) := by decide +kernel
theorem dX5_move_84 : decode cX5_move 84 = .ok (.invokevirtual 66, 3) := by decide +kernel
theorem dX5_move_87 : decode cX5_move 87 = .ok (.goto 22, 3) := by decide +kernel
theorem dX5_move_90 : decode cX5_move 90 = .ok (.aload_n 0, 1) := by decide +kernel
theorem dX5_move_91 : decode cX5_move 91 = .ok (.invokevirtual 62, 3) := by decide +kernel
theorem dX5_move_94 : decode cX5_move 94 = .ok (.pop, 1) := by decide +kernel
theorem dX5_move_95 : decode cX5_move 95 = .ok (.goto 14, 3) := by decide +kernel
theorem dX5_move_98 : decode cX5_move 98 = .ok (.aload_n 0, 1) := by decide +kernel
theorem dX5_move_99 : decode cX5_move 99 = .ok (.invokevirtual 72, 3) := by decide +kernel
theorem dX5_move_102 : decode cX5_move 102 = .ok (.goto 7, 3) := by decide +kernel
theorem dX5_move_105 : decode cX5_move 105 = .ok (.aload_n 0, 1) := by decide +kernel
theorem dX5_move_106 : decode cX5_move 106 = .ok (.invokevirtual 75, 3) := by decide +kernel
theorem dX5_move_109 : decode cX5_move 109 = .ok (.return_, 1) := by decide +kernel
theorem dX5_load_0 : decode cX5_load 0 = .ok (.aload_n 0, 1) := by decide +kernel
theorem dX5_load_1 : decode cX5_load 1 = .ok (.getfield 15, 3) := by decide +kernel
theorem dX5_load_4 : decode cX5_load 4 = .ok (.iload_n 1, 1) := by decide +kernel
theorem dX5_load_5 : decode cX5_load 5 = .ok (.invokevirtual 78, 3) := by decide +kernel
theorem dX5_load_8 : decode cX5_load 8 = .ok (.istore_n 2, 1) := by decide +kernel
theorem dX5_load_9 : decode cX5_load 9 = .ok (.aload_n 0, 1) := by decide +kernel
theorem dX5_load_10 : decode cX5_load 10 = .ok (.iload_n 2, 1) := by decide +kernel
theorem dX5_load_11 : decode cX5_load 11 = .ok (.bipush 99, 2) := by decide +kernel
theorem dX5_load_13 : decode cX5_load 13 = .ok (.if_icmp .eq 12, 3) := by decide +kernel
theorem dX5_load_16 : decode cX5_load 16 = .ok (.iload_n 2, 1) := by decide +kernel
theorem dX5_load_17 : decode cX5_load 17 = .ok (.iconst (-1), 1) := by decide +kernel
theorem dX5_load_18 : decode cX5_load 18 = .ok (.if_icmp .eq 7, 3) := by decide +kernel
theorem dX5_load_21 : decode cX5_load 21 = .ok (.iconst 1, 1) := by decide +kernel
theorem dX5_load_22 : decode cX5_load 22 = .ok (.goto 4, 3) := by decide +kernel
theorem dX5_load_25 : decode cX5_load 25 = .ok (.iconst 0, 1) := by decide +kernel
theorem dX5_load_26 : decode cX5_load 26 = .ok (.invokevirtual 82, 3) := by decide +kernel
theorem dX5_load_29 : decode cX5_load 29 = .ok (.aload_n 0, 1) := by decide +kernel
theorem dX5_load_30 : decode cX5_load 30 = .ok (.iload_n 2, 1) := by decide +kernel
theorem dX5_load_31 : decode cX5_load 31 = .ok (.invokevirtual 53, 3) := by decide +kernel
theorem dX5_load_34 : decode cX5_load 34 = .ok (.return_, 1) := by decide +kernel
theorem dX5_duplicate_0 : decode cX5_duplicate 0 = .ok (.aload_n 0, 1) := by decide +kernel
theorem dX5_duplicate_1 : decode cX5_duplicate 1 = .ok (.invokevirtual 62, 3) := by decide +kernel
theorem dX5_duplicate_4 : decode cX5_duplicate 4 = .ok (.istore_n 1, 1) := by decide +kernel
theorem dX5_duplicate_5 : decode cX5_duplicate 5 = .ok (.aload_n 0, 1) := by decide +kernel
theorem dX5_duplicate_6 : decode cX5_duplicate 6 = .ok (.iload_n 1, 1) := by decide +kernel
theorem dX5_duplicate_7 : decode cX5_duplicate 7 = .ok (.invokevirtual 53, 3) := by decide +kernel
theorem dX5_duplicate_10 : decode cX5_duplicate 10 = .ok (.aload_n 0, 1) := by decide +kernel
theorem dX5_duplicate_11 : decode cX5_duplicate 11 = .ok (.iload_n 1, 1) := by decide +kernel
theorem dX5_duplicate_12 : decode cX5_duplicate 12 = .ok (.invokevirtual 53, 3) := by decide +kernel
theorem dX5_duplicate_15 : decode cX5_duplicate 15 = .ok (.return_, 1) := by decide +kernel
theorem dX5_swap_0 : decode cX5_swap 0 = .ok (.aload_n 0, 1) := by decide +kernel
theorem dX5_swap_1 : decode cX5_swap 1 = .ok (.invokevirtual 62, 3) := by decide +kernel
theorem dX5_swap_4 : decode cX5_swap 4 = .ok (.istore_n 1, 1) := by decide +kernel
theorem dX5_swap_5 : decode cX5_swap 5 = .ok (.aload_n 0, 1) := by decide +kernel
theorem dX5_swap_6 : decode cX5_swap 6 = .ok (.invokevirtual 62, 3) := by decide +kernel
theorem dX5_swap_9 : decode cX5_swap 9 = .ok (.istore_n 2, 1) := by decide +kernel
theorem dX5_swap_10 : decode cX5_swap 10 = .ok (.aload_n 0, 1) := by decide +kernel
theorem dX5_swap_11 : decode cX5_swap 11 = .ok (.iload_n 1, 1) := by decide +kernel
theorem dX5_swap_12 : decode cX5_swap 12 = .ok (.invokevirtual 53, 3) := by decide +kernel
theorem dX5_swap_15 : decode cX5_swap 15 = .ok (.aload_n 0, 1) := by decide +kernel
theorem dX5_swap_16 : decode cX5_swap 16 = .ok (.iload_n 2, 1) := by decide +kernel
theorem dX5_swap_17 : decode cX5_swap 17 = .ok (.invokevirtual 53, 3) := by decide +kernel
theorem dX5_swap_20 : decode cX5_swap 20 = .ok (.return_, 1) := by decide +kernel
theorem dX5_reckon_0 : decode cX5_reckon 0 = .ok (.aload_n 0, 1) := by decide +kernel
theorem dX5_reckon_1 : decode cX5_reckon 1 = .ok (.invokevirtual 86, 3) := by decide +kernel
theorem dX5_reckon_4 : decode cX5_reckon 4 = .ok (.iload_n 1, 1) := by decide +kernel
theorem dX5_reckon_5 : decode cX5_reckon 5 = .ok (.bipush 17, 2) := by decide +kernel
theorem dX5_reckon_7 : decode cX5_reckon 7 = .ok (.if_icmp .gt 7, 3) := by decide +kernel
theorem dX5_reckon_10 : decode cX5_reckon 10 = .ok (.aload_n 0, 1) := by decide +kernel
theorem dX5_reckon_11 : decode cX5_reckon 11 = .ok (.invokevirtual 86, 3) := by decide +kernel
theorem dX5_reckon_14 : decode cX5_reckon 14 = .ok (.aload_n 0, 1) := by decide +kernel
theorem dX5_reckon_15 : decode cX5_reckon 15 = .ok (.iconst 0, 1) := by decide +kernel
theorem dX5_reckon_16 : decode cX5_reckon 16 = .ok (.invokevirtual 53, 3) := by decide +kernel
theorem dX5_reckon_19 : decode cX5_reckon 19 = .ok (.return_, 1) := by decide +kernel
theorem dX5_branch_0 : decode cX5_branch 0 = .ok (.iload_n 1, 1) := by decide +kernel
theorem dX5_branch_1 : decode cX5_branch 1 = .ok (.tableswitch 75 19 24 #[39, 46, 57, 57, 64, 64], 39) := by decide +kernel
theorem dX5_branch_40 : decode cX5_branch 40 = .ok (.aload_n 0, 1) := by decide +kernel
theorem dX5_branch_41 : decode cX5_branch 41 = .ok (.invokevirtual 86, 3) := by decide +kernel
theorem dX5_branch_44 : decode cX5_branch 44 = .ok (.goto 32, 3) := by decide +kernel
theorem dX5_branch_47 : decode cX5_branch 47 = .ok (.aload_n 0, 1) := by decide +kernel
theorem dX5_branch_48 : decode cX5_branch 48 = .ok (.invokevirtual 86, 3) := by decide +kernel
theorem dX5_branch_51 : decode cX5_branch 51 = .ok (.aload_n 0, 1) := by decide +kernel
theorem dX5_branch_52 : decode cX5_branch 52 = .ok (.invokevirtual 86, 3) := by decide +kernel
theorem dX5_branch_55 : decode cX5_branch 55 = .ok (.goto 21, 3) := by decide +kernel
theorem dX5_branch_58 : decode cX5_branch 58 = .ok (.aload_n 0, 1) := by decide +kernel
theorem dX5_branch_59 : decode cX5_branch 59 = .ok (.invokevirtual 89, 3) := by decide +kernel
theorem dX5_branch_62 : decode cX5_branch 62 = .ok (.goto 14, 3) := by decide +kernel
theorem dX5_branch_65 : decode cX5_branch 65 = .ok (.aload_n 0, 1) := by decide +kernel
theorem dX5_branch_66 : decode cX5_branch 66 = .ok (.invokevirtual 89, 3) := by decide +kernel
theorem dX5_branch_69 : decode cX5_branch 69 = .ok (.aload_n 0, 1) := by decide +kernel
theorem dX5_branch_70 : decode cX5_branch 70 = .ok (.invokevirtual 89, 3) := by decide +kernel
theorem dX5_branch_73 : decode cX5_branch 73 = .ok (.goto 3, 3) := by decide +kernel
theorem dX5_branch_76 : decode cX5_branch 76 = .ok (.return_, 1) := by decide +kernel
theorem dX5_useObject_0 : decode cX5_useObject 0 = .ok (.iconst 1, 1) := by decide +kernel
theorem dX5_useObject_1 : decode cX5_useObject 1 = .ok (.aload_n 1, 1) := by decide +kernel
theorem dX5_useObject_2 : decode cX5_useObject 2 = .ok (.getfield 56, 3) := by decide +kernel
theorem dX5_useObject_5 : decode cX5_useObject 5 = .ok (.iadd, 1) := by decide +kernel
theorem dX5_useObject_6 : decode cX5_useObject 6 = .ok (.istore_n 2, 1) := by decide +kernel
theorem dX5_useObject_7 : decode cX5_useObject 7 = .ok (.aload_n 1, 1) := by decide +kernel
theorem dX5_useObject_8 : decode cX5_useObject 8 = .ok (.getfield 23, 3) := by decide +kernel
theorem dX5_useObject_11 : decode cX5_useObject 11 = .ok (.tableswitch 103 26 29 #[29, 37, 64, 91], 29) := by decide +kernel
theorem dX5_useObject_40 : decode cX5_useObject 40 = .ok (.aload_n 0, 1) := by decide +kernel
theorem dX5_useObject_41 : decode cX5_useObject 41 = .ok (.iload_n 2, 1) := by decide +kernel
theorem dX5_useObject_42 : decode cX5_useObject 42 = .ok (.invokevirtual 53, 3) := by decide +kernel
theorem dX5_useObject_45 : decode cX5_useObject 45 = .ok (.goto 78, 3) := by decide +kernel
theorem dX5_useObject_48 : decode cX5_useObject 48 = .ok (.aload_n 0, 1) := by decide +kernel
theorem dX5_useObject_49 : decode cX5_useObject 49 = .ok (.iload_n 2, 1) := by decide +kernel
theorem dX5_useObject_50 : decode cX5_useObject 50 = .ok (.invokevirtual 92, 3) := by decide +kernel
theorem dX5_useObject_53 : decode cX5_useObject 53 = .ok (.aload_n 0, 1) := by decide +kernel
theorem dX5_useObject_54 : decode cX5_useObject 54 = .ok (.aload_n 0, 1) := by decide +kernel
theorem dX5_useObject_55 : decode cX5_useObject 55 = .ok (.getfield 9, 3) := by decide +kernel
theorem dX5_useObject_58 : decode cX5_useObject 58 = .ok (.aload_n 1, 1) := by decide +kernel
theorem dX5_useObject_59 : decode cX5_useObject 59 = .ok (.getfield 56, 3) := by decide +kernel
theorem dX5_useObject_62 : decode cX5_useObject 62 = .ok (.aload_n 1, 1) := by decide +kernel
theorem dX5_useObject_63 : decode cX5_useObject 63 = .ok (.getfield 95, 3) := by decide +kernel
theorem dX5_useObject_66 : decode cX5_useObject 66 = .ok (.invokevirtual 98, 3) := by decide +kernel
theorem dX5_useObject_69 : decode cX5_useObject 69 = .ok (.invokevirtual 53, 3) := by decide +kernel
theorem dX5_useObject_72 : decode cX5_useObject 72 = .ok (.goto 51, 3) := by decide +kernel
theorem dX5_useObject_75 : decode cX5_useObject 75 = .ok (.aload_n 0, 1) := by decide +kernel
theorem dX5_useObject_76 : decode cX5_useObject 76 = .ok (.aload_n 0, 1) := by decide +kernel
theorem dX5_useObject_77 : decode cX5_useObject 77 = .ok (.getfield 9, 3) := by decide +kernel
theorem dX5_useObject_80 : decode cX5_useObject 80 = .ok (.aload_n 1, 1) := by decide +kernel
theorem dX5_useObject_81 : decode cX5_useObject 81 = .ok (.getfield 56, 3) := by decide +kernel
theorem dX5_useObject_84 : decode cX5_useObject 84 = .ok (.aload_n 1, 1) := by decide +kernel
theorem dX5_useObject_85 : decode cX5_useObject 85 = .ok (.getfield 95, 3) := by decide +kernel
theorem dX5_useObject_88 : decode cX5_useObject 88 = .ok (.invokevirtual 98, 3) := by decide +kernel
theorem dX5_useObject_91 : decode cX5_useObject 91 = .ok (.invokevirtual 92, 3) := by decide +kernel
theorem dX5_useObject_94 : decode cX5_useObject 94 = .ok (.aload_n 0, 1) := by decide +kernel
theorem dX5_useObject_95 : decode cX5_useObject 95 = .ok (.iload_n 2, 1) := by decide +kernel
theorem dX5_useObject_96 : decode cX5_useObject 96 = .ok (.invokevirtual 92, 3) := by decide +kernel
theorem dX5_useObject_99 : decode cX5_useObject 99 = .ok (.goto 24, 3) := by decide +kernel
theorem dX5_useObject_102 : decode cX5_useObject 102 = .ok (.aload_n 0, 1) := by decide +kernel
theorem dX5_useObject_103 : decode cX5_useObject 103 = .ok (.invokevirtual 89, 3) := by decide +kernel
theorem dX5_useObject_106 : decode cX5_useObject 106 = .ok (.aload_n 0, 1) := by decide +kernel
theorem dX5_useObject_107 : decode cX5_useObject 107 = .ok (.iconst 0, 1) := by decide +kernel
theorem dX5_useObject_108 : decode cX5_useObject 108 = .ok (.invokevirtual 53, 3) := by decide +kernel
theorem dX5_useObject_111 : decode cX5_useObject 111 = .ok (.goto 12, 3) := by decide +kernel
theorem dX5_useObject_114 : decode cX5_useObject 114 = .ok (.aload_n 0, 1) := by decide +kernel
theorem dX5_useObject_115 : decode cX5_useObject 115 = .ok (.invokevirtual 89, 3) := by decide +kernel
theorem dX5_useObject_118 : decode cX5_useObject 118 = .ok (.aload_n 0, 1) := by decide +kernel
theorem dX5_useObject_119 : decode cX5_useObject 119 = .ok (.iload_n 2, 1) := by decide +kernel
theorem dX5_useObject_120 : decode cX5_useObject 120 = .ok (.invokevirtual 53, 3) := by decide +kernel
theorem dX5_useObject_123 : decode cX5_useObject 123 = .ok (.return_, 1) := by decide +kernel
theorem dX5_useRow_0 : decode cX5_useRow 0 = .ok (.aload_n 1, 1) := by decide +kernel
theorem dX5_useRow_1 : decode cX5_useRow 1 = .ok (.getfield 23, 3) := by decide +kernel
theorem dX5_useRow_4 : decode cX5_useRow 4 = .ok (.tableswitch 90 31 33 #[28, 46, 59], 28) := by decide +kernel
theorem dX5_useRow_32 : decode cX5_useRow 32 = .ok (.aload_n 0, 1) := by decide +kernel
theorem dX5_useRow_33 : decode cX5_useRow 33 = .ok (.invokevirtual 86, 3) := by decide +kernel
theorem dX5_useRow_36 : decode cX5_useRow 36 = .ok (.aload_n 0, 1) := by decide +kernel
theorem dX5_useRow_37 : decode cX5_useRow 37 = .ok (.aload_n 1, 1) := by decide +kernel
theorem dX5_useRow_38 : decode cX5_useRow 38 = .ok (.getfield 56, 3) := by decide +kernel
theorem dX5_useRow_41 : decode cX5_useRow 41 = .ok (.invokestatic 104, 3) := by decide +kernel
theorem dX5_useRow_44 : decode cX5_useRow 44 = .ok (.invokevirtual 53, 3) := by decide +kernel
theorem dX5_useRow_47 : decode cX5_useRow 47 = .ok (.goto 94, 3) := by decide +kernel
theorem dX5_useRow_50 : decode cX5_useRow 50 = .ok (.aload_n 0, 1) := by decide +kernel
theorem dX5_useRow_51 : decode cX5_useRow 51 = .ok (.invokevirtual 107, 3) := by decide +kernel
theorem dX5_useRow_54 : decode cX5_useRow 54 = .ok (.pop, 1) := by decide +kernel
theorem dX5_useRow_55 : decode cX5_useRow 55 = .ok (.aload_n 0, 1) := by decide +kernel
theorem dX5_useRow_56 : decode cX5_useRow 56 = .ok (.iconst 0, 1) := by decide +kernel
theorem dX5_useRow_57 : decode cX5_useRow 57 = .ok (.invokevirtual 53, 3) := by decide +kernel
theorem dX5_useRow_60 : decode cX5_useRow 60 = .ok (.goto 81, 3) := by decide +kernel
theorem dX5_useRow_63 : decode cX5_useRow 63 = .ok (.aload_n 0, 1) := by decide +kernel
theorem dX5_useRow_64 : decode cX5_useRow 64 = .ok (.invokevirtual 86, 3) := by decide +kernel
theorem dX5_useRow_67 : decode cX5_useRow 67 = .ok (.aload_n 0, 1) := by decide +kernel
theorem dX5_useRow_68 : decode cX5_useRow 68 = .ok (.invokevirtual 107, 3) := by decide +kernel
theorem dX5_useRow_71 : decode cX5_useRow 71 = .ok (.istore_n 2, 1) := by decide +kernel
theorem dX5_useRow_72 : decode cX5_useRow 72 = .ok (.aload_n 0, 1) := by decide +kernel
theorem dX5_useRow_73 : decode cX5_useRow 73 = .ok (.iload_n 2, 1) := by decide +kernel
theorem dX5_useRow_74 : decode cX5_useRow 74 = .ok (.bipush 97, 2) := by decide +kernel
theorem dX5_useRow_76 : decode cX5_useRow 76 = .ok (.if_icmp .ne 8, 3) := by decide +kernel
theorem dX5_useRow_79 : decode cX5_useRow 79 = .ok (.bipush 97, 2) := by decide +kernel
theorem dX5_useRow_81 : decode cX5_useRow 81 = .ok (.goto 7, 3) := by decide +kernel
theorem dX5_useRow_84 : decode cX5_useRow 84 = .ok (.iload_n 2, 1) := by decide +kernel
theorem dX5_useRow_85 : decode cX5_useRow 85 = .ok (.invokestatic 110, 3) := by decide +kernel
theorem dX5_useRow_88 : decode cX5_useRow 88 = .ok (.invokevirtual 53, 3) := by decide +kernel
theorem dX5_useRow_91 : decode cX5_useRow 91 = .ok (.goto 50, 3) := by decide +kernel
theorem dX5_useRow_94 : decode cX5_useRow 94 = .ok (.aload_n 0, 1) := by decide +kernel
theorem dX5_useRow_95 : decode cX5_useRow 95 = .ok (.invokevirtual 62, 3) := by decide +kernel
theorem dX5_useRow_98 : decode cX5_useRow 98 = .ok (.istore_n 3, 1) := by decide +kernel
theorem dX5_useRow_99 : decode cX5_useRow 99 = .ok (.aload_n 0, 1) := by decide +kernel
theorem dX5_useRow_100 : decode cX5_useRow 100 = .ok (.invokevirtual 86, 3) := by decide +kernel
theorem dX5_useRow_103 : decode cX5_useRow 103 = .ok (.aload_n 0, 1) := by decide +kernel
theorem dX5_useRow_104 : decode cX5_useRow 104 = .ok (.invokevirtual 107, 3) := by decide +kernel
theorem dX5_useRow_107 : decode cX5_useRow 107 = .ok (.istore 4, 2) := by decide +kernel
theorem dX5_useRow_109 : decode cX5_useRow 109 = .ok (.aload_n 0, 1) := by decide +kernel
theorem dX5_useRow_110 : decode cX5_useRow 110 = .ok (.iload 4, 2) := by decide +kernel
theorem dX5_useRow_112 : decode cX5_useRow 112 = .ok (.bipush 97, 2) := by decide +kernel
theorem dX5_useRow_114 : decode cX5_useRow 114 = .ok (.if_icmp .eq 19, 3) := by decide +kernel
theorem dX5_useRow_117 : decode cX5_useRow 117 = .ok (.aload_n 0, 1) := by decide +kernel
theorem dX5_useRow_118 : decode cX5_useRow 118 = .ok (.getfield 9, 3) := by decide +kernel
theorem dX5_useRow_121 : decode cX5_useRow 121 = .ok (.iload_n 3, 1) := by decide +kernel
theorem dX5_useRow_122 : decode cX5_useRow 122 = .ok (.iload 4, 2) := by decide +kernel
theorem dX5_useRow_124 : decode cX5_useRow 124 = .ok (.invokestatic 110, 3) := by decide +kernel
theorem dX5_useRow_127 : decode cX5_useRow 127 = .ok (.invokevirtual 113, 3) := by decide +kernel
theorem dX5_useRow_130 : decode cX5_useRow 130 = .ok (.ifCond .eq 7, 3) := by decide +kernel
theorem dX5_useRow_133 : decode cX5_useRow 133 = .ok (.iconst 1, 1) := by decide +kernel
theorem dX5_useRow_134 : decode cX5_useRow 134 = .ok (.goto 4, 3) := by decide +kernel
theorem dX5_useRow_137 : decode cX5_useRow 137 = .ok (.iconst 0, 1) := by decide +kernel
theorem dX5_useRow_138 : decode cX5_useRow 138 = .ok (.invokevirtual 82, 3) := by decide +kernel
theorem dX5_useRow_141 : decode cX5_useRow 141 = .ok (.return_, 1) := by decide +kernel
theorem dX5_invoke_0 : decode cX5_invoke 0 = .ok (.aload_n 1, 1) := by decide +kernel
theorem dX5_invoke_1 : decode cX5_invoke 1 = .ok (.getfield 23, 3) := by decide +kernel
theorem dX5_invoke_4 : decode cX5_invoke 4 = .ok (.bipush 36, 2) := by decide +kernel
theorem dX5_invoke_6 : decode cX5_invoke 6 = .ok (.if_icmp .ne 7, 3) := by decide +kernel
theorem dX5_invoke_9 : decode cX5_invoke 9 = .ok (.iconst 1, 1) := by decide +kernel
theorem dX5_invoke_10 : decode cX5_invoke 10 = .ok (.goto 4, 3) := by decide +kernel
theorem dX5_invoke_13 : decode cX5_invoke 13 = .ok (.iconst 0, 1) := by decide +kernel
theorem dX5_invoke_14 : decode cX5_invoke 14 = .ok (.istore_n 2, 1) := by decide +kernel
theorem dX5_invoke_15 : decode cX5_invoke 15 = .ok (.iload_n 2, 1) := by decide +kernel
theorem dX5_invoke_16 : decode cX5_invoke 16 = .ok (.ifCond .eq 21, 3) := by decide +kernel
theorem dX5_invoke_19 : decode cX5_invoke 19 = .ok (.aload_n 0, 1) := by decide +kernel
theorem dX5_invoke_20 : decode cX5_invoke 20 = .ok (.getfield 9, 3) := by decide +kernel
theorem dX5_invoke_23 : decode cX5_invoke 23 = .ok (.aload_n 1, 1) := by decide +kernel
theorem dX5_invoke_24 : decode cX5_invoke 24 = .ok (.getfield 56, 3) := by decide +kernel
theorem dX5_invoke_27 : decode cX5_invoke 27 = .ok (.aload_n 1, 1) := by decide +kernel
theorem dX5_invoke_28 : decode cX5_invoke 28 = .ok (.getfield 95, 3) := by decide +kernel
theorem dX5_invoke_31 : decode cX5_invoke 31 = .ok (.invokevirtual 117, 3) := by decide +kernel
theorem dX5_invoke_34 : decode cX5_invoke 34 = .ok (.goto 14, 3) := by decide +kernel
theorem dX5_invoke_37 : decode cX5_invoke 37 = .ok (.aload_n 0, 1) := by decide +kernel
theorem dX5_invoke_38 : decode cX5_invoke 38 = .ok (.getfield 9, 3) := by decide +kernel
theorem dX5_invoke_41 : decode cX5_invoke 41 = .ok (.aload_n 1, 1) := by decide +kernel
theorem dX5_invoke_42 : decode cX5_invoke 42 = .ok (.getfield 56, 3) := by decide +kernel
theorem dX5_invoke_45 : decode cX5_invoke 45 = .ok (.invokevirtual 121, 3) := by decide +kernel
theorem dX5_invoke_48 : decode cX5_invoke 48 = .ok (.astore_n 3, 1) := by decide +kernel
theorem dX5_invoke_49 : decode cX5_invoke 49 = .ok (.aload_n 3, 1) := by decide +kernel
theorem dX5_invoke_50 : decode cX5_invoke 50 = .ok (.ifnonnull 9, 3) := by decide +kernel
theorem dX5_invoke_53 : decode cX5_invoke 53 = .ok (.aload_n 0, 1) := by decide +kernel
theorem dX5_invoke_54 : decode cX5_invoke 54 = .ok (.iconst 0, 1) := by decide +kernel
theorem dX5_invoke_55 : decode cX5_invoke 55 = .ok (.putfield 19, 3) := by decide +kernel
theorem dX5_invoke_58 : decode cX5_invoke 58 = .ok (.return_, 1) := by decide +kernel
theorem dX5_invoke_59 : decode cX5_invoke 59 = .ok (.iload_n 2, 1) := by decide +kernel
theorem dX5_invoke_60 : decode cX5_invoke 60 = .ok (.ifCond .eq 7, 3) := by decide +kernel
theorem dX5_invoke_63 : decode cX5_invoke 63 = .ok (.iconst 1, 1) := by decide +kernel
theorem dX5_invoke_64 : decode cX5_invoke 64 = .ok (.goto 4, 3) := by decide +kernel
theorem dX5_invoke_67 : decode cX5_invoke 67 = .ok (.iconst 0, 1) := by decide +kernel
theorem dX5_invoke_68 : decode cX5_invoke 68 = .ok (.istore 4, 2) := by decide +kernel
theorem dX5_invoke_70 : decode cX5_invoke 70 = .ok (.aload_n 3, 1) := by decide +kernel
theorem dX5_invoke_71 : decode cX5_invoke 71 = .ok (.getfield 125, 3) := by decide +kernel
theorem dX5_invoke_74 : decode cX5_invoke 74 = .ok (.iconst 1, 1) := by decide +kernel
theorem dX5_invoke_75 : decode cX5_invoke 75 = .ok (.isub, 1) := by decide +kernel
theorem dX5_invoke_76 : decode cX5_invoke 76 = .ok (.istore 5, 2) := by decide +kernel
theorem dX5_invoke_78 : decode cX5_invoke 78 = .ok (.iload 5, 2) := by decide +kernel
theorem dX5_invoke_80 : decode cX5_invoke 80 = .ok (.iload 4, 2) := by decide +kernel
theorem dX5_invoke_82 : decode cX5_invoke 82 = .ok (.if_icmp .lt 19, 3) := by decide +kernel
theorem dX5_invoke_85 : decode cX5_invoke 85 = .ok (.aload_n 0, 1) := by decide +kernel
theorem dX5_invoke_86 : decode cX5_invoke 86 = .ok (.aload_n 3, 1) := by decide +kernel
theorem dX5_invoke_87 : decode cX5_invoke 87 = .ok (.iload 5, 2) := by decide +kernel
theorem dX5_invoke_89 : decode cX5_invoke 89 = .ok (.invokevirtual 130, 3) := by decide +kernel
theorem dX5_invoke_92 : decode cX5_invoke 92 = .ok (.invokevirtual 92, 3) := by decide +kernel
theorem dX5_invoke_95 : decode cX5_invoke 95 = .ok (.iinc 5 (-1), 3) := by decide +kernel
theorem dX5_invoke_98 : decode cX5_invoke 98 = .ok (.goto (-20), 3) := by decide +kernel
theorem dX5_invoke_101 : decode cX5_invoke 101 = .ok (.iload_n 2, 1) := by decide +kernel
theorem dX5_invoke_102 : decode cX5_invoke 102 = .ok (.ifCond .eq 13, 3) := by decide +kernel
theorem dX5_invoke_105 : decode cX5_invoke 105 = .ok (.aload_n 0, 1) := by decide +kernel
theorem dX5_invoke_106 : decode cX5_invoke 106 = .ok (.iconst 1, 1) := by decide +kernel
theorem dX5_invoke_107 : decode cX5_invoke 107 = .ok (.aload_n 1, 1) := by decide +kernel
theorem dX5_invoke_108 : decode cX5_invoke 108 = .ok (.getfield 56, 3) := by decide +kernel
theorem dX5_invoke_111 : decode cX5_invoke 111 = .ok (.iadd, 1) := by decide +kernel
theorem dX5_invoke_112 : decode cX5_invoke 112 = .ok (.invokevirtual 92, 3) := by decide +kernel
theorem dX5_invoke_115 : decode cX5_invoke 115 = .ok (.aload_n 3, 1) := by decide +kernel
theorem dX5_invoke_116 : decode cX5_invoke 116 = .ok (.getfield 133, 3) := by decide +kernel
theorem dX5_invoke_119 : decode cX5_invoke 119 = .ok (.iconst (-1), 1) := by decide +kernel
theorem dX5_invoke_120 : decode cX5_invoke 120 = .ok (.if_icmp .eq 11, 3) := by decide +kernel
theorem dX5_invoke_123 : decode cX5_invoke 123 = .ok (.aload_n 0, 1) := by decide +kernel
theorem dX5_invoke_124 : decode cX5_invoke 124 = .ok (.aload_n 3, 1) := by decide +kernel
theorem dX5_invoke_125 : decode cX5_invoke 125 = .ok (.getfield 133, 3) := by decide +kernel
theorem dX5_invoke_128 : decode cX5_invoke 128 = .ok (.invokevirtual 53, 3) := by decide +kernel
theorem dX5_invoke_131 : decode cX5_invoke 131 = .ok (.return_, 1) := by decide +kernel
theorem dX5_leaveOrTalk_0 : decode cX5_leaveOrTalk 0 = .ok (.iload_n 2, 1) := by decide +kernel
theorem dX5_leaveOrTalk_1 : decode cX5_leaveOrTalk 1 = .ok (.tableswitch 117 37 40 #[31, 51, 79, 109], 31) := by decide +kernel
theorem dX5_leaveOrTalk_32 : decode cX5_leaveOrTalk 32 = .ok (.aload_n 0, 1) := by decide +kernel
theorem dX5_leaveOrTalk_33 : decode cX5_leaveOrTalk 33 = .ok (.aload_n 1, 1) := by decide +kernel
theorem dX5_leaveOrTalk_34 : decode cX5_leaveOrTalk 34 = .ok (.getfield 133, 3) := by decide +kernel
theorem dX5_leaveOrTalk_37 : decode cX5_leaveOrTalk 37 = .ok (.iconst (-1), 1) := by decide +kernel
theorem dX5_leaveOrTalk_38 : decode cX5_leaveOrTalk 38 = .ok (.if_icmp .ne 7, 3) := by decide +kernel
theorem dX5_leaveOrTalk_41 : decode cX5_leaveOrTalk 41 = .ok (.iconst 1, 1) := by decide +kernel
theorem dX5_leaveOrTalk_42 : decode cX5_leaveOrTalk 42 = .ok (.goto 4, 3) := by decide +kernel
theorem dX5_leaveOrTalk_45 : decode cX5_leaveOrTalk 45 = .ok (.iconst 0, 1) := by decide +kernel
theorem dX5_leaveOrTalk_46 : decode cX5_leaveOrTalk 46 = .ok (.invokevirtual 82, 3) := by decide +kernel
theorem dX5_leaveOrTalk_49 : decode cX5_leaveOrTalk 49 = .ok (.goto 73, 3) := by decide +kernel
theorem dX5_leaveOrTalk_52 : decode cX5_leaveOrTalk 52 = .ok (.aload_n 0, 1) := by decide +kernel
theorem dX5_leaveOrTalk_53 : decode cX5_leaveOrTalk 53 = .ok (.aload_n 1, 1) := by decide +kernel
theorem dX5_leaveOrTalk_54 : decode cX5_leaveOrTalk 54 = .ok (.getfield 133, 3) := by decide +kernel
theorem dX5_leaveOrTalk_57 : decode cX5_leaveOrTalk 57 = .ok (.iconst (-1), 1) := by decide +kernel
theorem dX5_leaveOrTalk_58 : decode cX5_leaveOrTalk 58 = .ok (.if_icmp .eq 7, 3) := by decide +kernel
theorem dX5_leaveOrTalk_61 : decode cX5_leaveOrTalk 61 = .ok (.iconst 1, 1) := by decide +kernel
theorem dX5_leaveOrTalk_62 : decode cX5_leaveOrTalk 62 = .ok (.goto 4, 3) := by decide +kernel
theorem dX5_leaveOrTalk_65 : decode cX5_leaveOrTalk 65 = .ok (.iconst 0, 1) := by decide +kernel
theorem dX5_leaveOrTalk_66 : decode cX5_leaveOrTalk 66 = .ok (.invokevirtual 82, 3) := by decide +kernel
theorem dX5_leaveOrTalk_69 : decode cX5_leaveOrTalk 69 = .ok (.aload_n 0, 1) := by decide +kernel
theorem dX5_leaveOrTalk_70 : decode cX5_leaveOrTalk 70 = .ok (.aload_n 1, 1) := by decide +kernel
theorem dX5_leaveOrTalk_71 : decode cX5_leaveOrTalk 71 = .ok (.getfield 133, 3) := by decide +kernel
theorem dX5_leaveOrTalk_74 : decode cX5_leaveOrTalk 74 = .ok (.invokevirtual 92, 3) := by decide +kernel
theorem dX5_leaveOrTalk_77 : decode cX5_leaveOrTalk 77 = .ok (.goto 45, 3) := by decide +kernel
theorem dX5_leaveOrTalk_80 : decode cX5_leaveOrTalk 80 = .ok (.aload_n 0, 1) := by decide +kernel
theorem dX5_leaveOrTalk_81 : decode cX5_leaveOrTalk 81 = .ok (.invokevirtual 62, 3) := by decide +kernel
theorem dX5_leaveOrTalk_84 : decode cX5_leaveOrTalk 84 = .ok (.istore_n 3, 1) := by decide +kernel
theorem dX5_leaveOrTalk_85 : decode cX5_leaveOrTalk 85 = .ok (.aload_n 0, 1) := by decide +kernel
theorem dX5_leaveOrTalk_86 : decode cX5_leaveOrTalk 86 = .ok (.iload_n 3, 1) := by decide +kernel
theorem dX5_leaveOrTalk_87 : decode cX5_leaveOrTalk 87 = .ok (.invokestatic 136, 3) := by decide +kernel
theorem dX5_leaveOrTalk_90 : decode cX5_leaveOrTalk 90 = .ok (.ifCond .ne 9, 3) := by decide +kernel
theorem dX5_leaveOrTalk_93 : decode cX5_leaveOrTalk 93 = .ok (.iload_n 3, 1) := by decide +kernel
theorem dX5_leaveOrTalk_94 : decode cX5_leaveOrTalk 94 = .ok (.bipush 97, 2) := by decide +kernel
theorem dX5_leaveOrTalk_96 : decode cX5_leaveOrTalk 96 = .ok (.if_icmp .ne 7, 3) := by decide +kernel
theorem dX5_leaveOrTalk_99 : decode cX5_leaveOrTalk 99 = .ok (.iconst 1, 1) := by decide +kernel
theorem dX5_leaveOrTalk_100 : decode cX5_leaveOrTalk 100 = .ok (.goto 4, 3) := by decide +kernel
theorem dX5_leaveOrTalk_103 : decode cX5_leaveOrTalk 103 = .ok (.iconst 0, 1) := by decide +kernel
theorem dX5_leaveOrTalk_104 : decode cX5_leaveOrTalk 104 = .ok (.invokevirtual 82, 3) := by decide +kernel
theorem dX5_leaveOrTalk_107 : decode cX5_leaveOrTalk 107 = .ok (.goto 15, 3) := by decide +kernel
theorem dX5_leaveOrTalk_110 : decode cX5_leaveOrTalk 110 = .ok (.aload_n 0, 1) := by decide +kernel
theorem dX5_leaveOrTalk_111 : decode cX5_leaveOrTalk 111 = .ok (.iconst 0, 1) := by decide +kernel
theorem dX5_leaveOrTalk_112 : decode cX5_leaveOrTalk 112 = .ok (.invokevirtual 53, 3) := by decide +kernel
theorem dX5_leaveOrTalk_115 : decode cX5_leaveOrTalk 115 = .ok (.goto 7, 3) := by decide +kernel
theorem dX5_leaveOrTalk_118 : decode cX5_leaveOrTalk 118 = .ok (.aload_n 0, 1) := by decide +kernel
theorem dX5_leaveOrTalk_119 : decode cX5_leaveOrTalk 119 = .ok (.invokevirtual 86, 3) := by decide +kernel
theorem dX5_leaveOrTalk_122 : decode cX5_leaveOrTalk 122 = .ok (.return_, 1) := by decide +kernel
theorem dX5_need_0 : decode cX5_need 0 = .ok (.aload_n 0, 1) := by decide +kernel
theorem dX5_need_1 : decode cX5_need 1 = .ok (.aload_n 0, 1) := by decide +kernel
theorem dX5_need_2 : decode cX5_need 2 = .ok (.getfield 19, 3) := by decide +kernel
theorem dX5_need_5 : decode cX5_need 5 = .ok (.ifCond .eq 11, 3) := by decide +kernel
theorem dX5_need_8 : decode cX5_need 8 = .ok (.iload_n 1, 1) := by decide +kernel
theorem dX5_need_9 : decode cX5_need 9 = .ok (.ifCond .eq 7, 3) := by decide +kernel
theorem dX5_need_12 : decode cX5_need 12 = .ok (.iconst 1, 1) := by decide +kernel
theorem dX5_need_13 : decode cX5_need 13 = .ok (.goto 4, 3) := by decide +kernel
theorem dX5_need_16 : decode cX5_need 16 = .ok (.iconst 0, 1) := by decide +kernel
theorem dX5_need_17 : decode cX5_need 17 = .ok (.putfield 19, 3) := by decide +kernel
theorem dX5_need_20 : decode cX5_need 20 = .ok (.return_, 1) := by decide +kernel
theorem dX5_put_0 : decode cX5_put 0 = .ok (.aload_n 0, 1) := by decide +kernel
theorem dX5_put_1 : decode cX5_put 1 = .ok (.aload_n 0, 1) := by decide +kernel
theorem dX5_put_2 : decode cX5_put 2 = .ok (.getfield 15, 3) := by decide +kernel
theorem dX5_put_5 : decode cX5_put 5 = .ok (.iload_n 1, 1) := by decide +kernel
theorem dX5_put_6 : decode cX5_put 6 = .ok (.invokevirtual 140, 3) := by decide +kernel
theorem dX5_put_9 : decode cX5_put 9 = .ok (.invokevirtual 82, 3) := by decide +kernel
theorem dX5_put_12 : decode cX5_put 12 = .ok (.return_, 1) := by decide +kernel
theorem dX5_take_0 : decode cX5_take 0 = .ok (.aload_n 0, 1) := by decide +kernel
theorem dX5_take_1 : decode cX5_take 1 = .ok (.getfield 15, 3) := by decide +kernel
theorem dX5_take_4 : decode cX5_take 4 = .ok (.aload_n 0, 1) := by decide +kernel
theorem dX5_take_5 : decode cX5_take 5 = .ok (.getfield 15, 3) := by decide +kernel
theorem dX5_take_8 : decode cX5_take 8 = .ok (.getfield 142, 3) := by decide +kernel
theorem dX5_take_11 : decode cX5_take 11 = .ok (.iconst 1, 1) := by decide +kernel
theorem dX5_take_12 : decode cX5_take 12 = .ok (.isub, 1) := by decide +kernel
theorem dX5_take_13 : decode cX5_take 13 = .ok (.invokevirtual 145, 3) := by decide +kernel
theorem dX5_take_16 : decode cX5_take 16 = .ok (.istore_n 1, 1) := by decide +kernel
theorem dX5_take_17 : decode cX5_take 17 = .ok (.iload_n 1, 1) := by decide +kernel
theorem dX5_take_18 : decode cX5_take 18 = .ok (.iconst (-1), 1) := by decide +kernel
theorem dX5_take_19 : decode cX5_take 19 = .ok (.if_icmp .ne 11, 3) := by decide +kernel
theorem dX5_take_22 : decode cX5_take 22 = .ok (.aload_n 0, 1) := by decide +kernel
theorem dX5_take_23 : decode cX5_take 23 = .ok (.iconst 0, 1) := by decide +kernel
theorem dX5_take_24 : decode cX5_take 24 = .ok (.putfield 19, 3) := by decide +kernel
theorem dX5_take_27 : decode cX5_take 27 = .ok (.goto 16, 3) := by decide +kernel
theorem dX5_take_30 : decode cX5_take 30 = .ok (.aload_n 0, 1) := by decide +kernel
theorem dX5_take_31 : decode cX5_take 31 = .ok (.getfield 15, 3) := by decide +kernel
theorem dX5_take_34 : decode cX5_take 34 = .ok (.dup, 1) := by decide +kernel
theorem dX5_take_35 : decode cX5_take 35 = .ok (.getfield 142, 3) := by decide +kernel
theorem dX5_take_38 : decode cX5_take 38 = .ok (.iconst 1, 1) := by decide +kernel
theorem dX5_take_39 : decode cX5_take 39 = .ok (.isub, 1) := by decide +kernel
theorem dX5_take_40 : decode cX5_take 40 = .ok (.putfield 142, 3) := by decide +kernel
theorem dX5_take_43 : decode cX5_take 43 = .ok (.iload_n 1, 1) := by decide +kernel
theorem dX5_take_44 : decode cX5_take 44 = .ok (.ireturn, 1) := by decide +kernel
theorem dX5_takeInt_0 : decode cX5_takeInt 0 = .ok (.aload_n 0, 1) := by decide +kernel
theorem dX5_takeInt_1 : decode cX5_takeInt 1 = .ok (.aload_n 0, 1) := by decide +kernel
theorem dX5_takeInt_2 : decode cX5_takeInt 2 = .ok (.invokevirtual 62, 3) := by decide +kernel
theorem dX5_takeInt_5 : decode cX5_takeInt 5 = .ok (.ifCond .ne 7, 3) := by decide +kernel
theorem dX5_takeInt_8 : decode cX5_takeInt 8 = .ok (.iconst 1, 1) := by decide +kernel
theorem dX5_takeInt_9 : decode cX5_takeInt 9 = .ok (.goto 4, 3) := by decide +kernel
theorem dX5_takeInt_12 : decode cX5_takeInt 12 = .ok (.iconst 0, 1) := by decide +kernel
theorem dX5_takeInt_13 : decode cX5_takeInt 13 = .ok (.invokevirtual 82, 3) := by decide +kernel
theorem dX5_takeInt_16 : decode cX5_takeInt 16 = .ok (.return_, 1) := by decide +kernel
theorem dX5_takeReference_0 : decode cX5_takeReference 0 = .ok (.aload_n 0, 1) := by decide +kernel
theorem dX5_takeReference_1 : decode cX5_takeReference 1 = .ok (.aload_n 0, 1) := by decide +kernel
theorem dX5_takeReference_2 : decode cX5_takeReference 2 = .ok (.invokevirtual 62, 3) := by decide +kernel
theorem dX5_takeReference_5 : decode cX5_takeReference 5 = .ok (.invokestatic 148, 3) := by decide +kernel
theorem dX5_takeReference_8 : decode cX5_takeReference 8 = .ok (.invokevirtual 82, 3) := by decide +kernel
theorem dX5_takeReference_11 : decode cX5_takeReference 11 = .ok (.return_, 1) := by decide +kernel
theorem dX5_takeRow_0 : decode cX5_takeRow 0 = .ok (.aload_n 0, 1) := by decide +kernel
theorem dX5_takeRow_1 : decode cX5_takeRow 1 = .ok (.invokevirtual 62, 3) := by decide +kernel
theorem dX5_takeRow_4 : decode cX5_takeRow 4 = .ok (.istore_n 1, 1) := by decide +kernel
theorem dX5_takeRow_5 : decode cX5_takeRow 5 = .ok (.aload_n 0, 1) := by decide +kernel
theorem dX5_takeRow_6 : decode cX5_takeRow 6 = .ok (.iload_n 1, 1) := by decide +kernel
theorem dX5_takeRow_7 : decode cX5_takeRow 7 = .ok (.invokestatic 151, 3) := by decide +kernel
theorem dX5_takeRow_10 : decode cX5_takeRow 10 = .ok (.ifCond .ne 9, 3) := by decide +kernel
theorem dX5_takeRow_13 : decode cX5_takeRow 13 = .ok (.iload_n 1, 1) := by decide +kernel
theorem dX5_takeRow_14 : decode cX5_takeRow 14 = .ok (.bipush 97, 2) := by decide +kernel
theorem dX5_takeRow_16 : decode cX5_takeRow 16 = .ok (.if_icmp .ne 7, 3) := by decide +kernel
theorem dX5_takeRow_19 : decode cX5_takeRow 19 = .ok (.iconst 1, 1) := by decide +kernel
theorem dX5_takeRow_20 : decode cX5_takeRow 20 = .ok (.goto 4, 3) := by decide +kernel
theorem dX5_takeRow_23 : decode cX5_takeRow 23 = .ok (.iconst 0, 1) := by decide +kernel
theorem dX5_takeRow_24 : decode cX5_takeRow 24 = .ok (.invokevirtual 82, 3) := by decide +kernel
theorem dX5_takeRow_27 : decode cX5_takeRow 27 = .ok (.iload_n 1, 1) := by decide +kernel
theorem dX5_takeRow_28 : decode cX5_takeRow 28 = .ok (.ireturn, 1) := by decide +kernel
theorem dX5_takeInto_0 : decode cX5_takeInto 0 = .ok (.aload_n 0, 1) := by decide +kernel
theorem dX5_takeInto_1 : decode cX5_takeInto 1 = .ok (.aload_n 0, 1) := by decide +kernel
theorem dX5_takeInto_2 : decode cX5_takeInto 2 = .ok (.getfield 9, 3) := by decide +kernel
theorem dX5_takeInto_5 : decode cX5_takeInto 5 = .ok (.aload_n 0, 1) := by decide +kernel
theorem dX5_takeInto_6 : decode cX5_takeInto 6 = .ok (.invokevirtual 62, 3) := by decide +kernel
theorem dX5_takeInto_9 : decode cX5_takeInto 9 = .ok (.iload_n 1, 1) := by decide +kernel
theorem dX5_takeInto_10 : decode cX5_takeInto 10 = .ok (.invokevirtual 113, 3) := by decide +kernel
theorem dX5_takeInto_13 : decode cX5_takeInto 13 = .ok (.invokevirtual 82, 3) := by decide +kernel
theorem dX5_takeInto_16 : decode cX5_takeInto 16 = .ok (.return_, 1) := by decide +kernel
theorem dX6_init_0 : decode cX6_init 0 = .ok (.aload_n 0, 1) := by decide +kernel
theorem dX6_init_1 : decode cX6_init 1 = .ok (.invokespecial 3, 3) := by decide +kernel
theorem dX6_init_4 : decode cX6_init 4 = .ok (.aload_n 0, 1) := by decide +kernel
theorem dX6_init_5 : decode cX6_init 5 = .ok (.bipush 32, 2) := by decide +kernel
theorem dX6_init_7 : decode cX6_init 7 = .ok (.anewarray 9, 3) := by decide +kernel
theorem dX6_init_10 : decode cX6_init 10 = .ok (.putfield 11, 3) := by decide +kernel
theorem dX6_init_13 : decode cX6_init 13 = .ok (.aload_n 0, 1) := by decide +kernel
theorem dX6_init_14 : decode cX6_init 14 = .ok (.bipush 64, 2) := by decide +kernel
theorem dX6_init_16 : decode cX6_init 16 = .ok (.anewarray 17, 3) := by decide +kernel
theorem dX6_init_19 : decode cX6_init 19 = .ok (.putfield 19, 3) := by decide +kernel
theorem dX6_init_22 : decode cX6_init 22 = .ok (.return_, 1) := by decide +kernel
theorem dX6_kindAt_0 : decode cX6_kindAt 0 = .ok (.iload_n 1, 1) := by decide +kernel
theorem dX6_kindAt_1 : decode cX6_kindAt 1 = .ok (.ifCond .lt 26, 3) := by decide +kernel
theorem dX6_kindAt_4 : decode cX6_kindAt 4 = .ok (.iload_n 1, 1) := by decide +kernel
theorem dX6_kindAt_5 : decode cX6_kindAt 5 = .ok (.aload_n 0, 1) := by decide +kernel
theorem dX6_kindAt_6 : decode cX6_kindAt 6 = .ok (.getfield 23, 3) := by decide +kernel
theorem dX6_kindAt_9 : decode cX6_kindAt 9 = .ok (.if_icmp .ge 18, 3) := by decide +kernel
theorem dX6_kindAt_12 : decode cX6_kindAt 12 = .ok (.iload_n 1, 1) := by decide +kernel
theorem dX6_kindAt_13 : decode cX6_kindAt 13 = .ok (.bipush 32, 2) := by decide +kernel
theorem dX6_kindAt_15 : decode cX6_kindAt 15 = .ok (.if_icmp .ge 12, 3) := by decide +kernel
theorem dX6_kindAt_18 : decode cX6_kindAt 18 = .ok (.aload_n 0, 1) := by decide +kernel
theorem dX6_kindAt_19 : decode cX6_kindAt 19 = .ok (.getfield 11, 3) := by decide +kernel
theorem dX6_kindAt_22 : decode cX6_kindAt 22 = .ok (.iload_n 1, 1) := by decide +kernel
theorem dX6_kindAt_23 : decode cX6_kindAt 23 = .ok (.aaload, 1) := by decide +kernel
theorem dX6_kindAt_24 : decode cX6_kindAt 24 = .ok (.goto 4, 3) := by decide +kernel
theorem dX6_kindAt_27 : decode cX6_kindAt 27 = .ok (.aconst_null, 1) := by decide +kernel
theorem dX6_kindAt_28 : decode cX6_kindAt 28 = .ok (.areturn, 1) := by decide +kernel
theorem dX6_methodAt_0 : decode cX6_methodAt 0 = .ok (.iload_n 1, 1) := by decide +kernel
theorem dX6_methodAt_1 : decode cX6_methodAt 1 = .ok (.ifCond .lt 26, 3) := by decide +kernel
theorem dX6_methodAt_4 : decode cX6_methodAt 4 = .ok (.iload_n 1, 1) := by decide +kernel
theorem dX6_methodAt_5 : decode cX6_methodAt 5 = .ok (.aload_n 0, 1) := by decide +kernel
theorem dX6_methodAt_6 : decode cX6_methodAt 6 = .ok (.getfield 27, 3) := by decide +kernel
theorem dX6_methodAt_9 : decode cX6_methodAt 9 = .ok (.if_icmp .ge 18, 3) := by decide +kernel
theorem dX6_methodAt_12 : decode cX6_methodAt 12 = .ok (.iload_n 1, 1) := by decide +kernel
theorem dX6_methodAt_13 : decode cX6_methodAt 13 = .ok (.bipush 64, 2) := by decide +kernel
theorem dX6_methodAt_15 : decode cX6_methodAt 15 = .ok (.if_icmp .ge 12, 3) := by decide +kernel
theorem dX6_methodAt_18 : decode cX6_methodAt 18 = .ok (.aload_n 0, 1) := by decide +kernel
theorem dX6_methodAt_19 : decode cX6_methodAt 19 = .ok (.getfield 19, 3) := by decide +kernel
theorem dX6_methodAt_22 : decode cX6_methodAt 22 = .ok (.iload_n 1, 1) := by decide +kernel
theorem dX6_methodAt_23 : decode cX6_methodAt 23 = .ok (.aaload, 1) := by decide +kernel
theorem dX6_methodAt_24 : decode cX6_methodAt 24 = .ok (.goto 4, 3) := by decide +kernel
theorem dX6_methodAt_27 : decode cX6_methodAt 27 = .ok (.aconst_null, 1) := by decide +kernel
theorem dX6_methodAt_28 : decode cX6_methodAt 28 = .ok (.areturn, 1) := by decide +kernel
theorem dX6_addKind_0 : decode cX6_addKind 0 = .ok (.aload_n 0, 1) := by decide +kernel
theorem dX6_addKind_1 : decode cX6_addKind 1 = .ok (.getfield 23, 3) := by decide +kernel
theorem dX6_addKind_4 : decode cX6_addKind 4 = .ok (.bipush 32, 2) := by decide +kernel
theorem dX6_addKind_6 : decode cX6_addKind 6 = .ok (.if_icmp .lt 6, 3) := by decide +kernel
theorem dX6_addKind_9 : decode cX6_addKind 9 = .ok (.bipush (-2), 2) := by decide +kernel
theorem dX6_addKind_11 : decode cX6_addKind 11 = .ok (.ireturn, 1) := by decide +kernel
theorem dX6_addKind_12 : decode cX6_addKind 12 = .ok (.aload_n 0, 1) := by decide +kernel
theorem dX6_addKind_13 : decode cX6_addKind 13 = .ok (.getfield 11, 3) := by decide +kernel
theorem dX6_addKind_16 : decode cX6_addKind 16 = .ok (.aload_n 0, 1) := by decide +kernel
theorem dX6_addKind_17 : decode cX6_addKind 17 = .ok (.getfield 23, 3) := by decide +kernel
theorem dX6_addKind_20 : decode cX6_addKind 20 = .ok (.new 9, 3) := by decide +kernel
theorem dX6_addKind_23 : decode cX6_addKind 23 = .ok (.dup, 1) := by decide +kernel
theorem dX6_addKind_24 : decode cX6_addKind 24 = .ok (.aload_n 0, 1) := by decide +kernel
theorem dX6_addKind_25 : decode cX6_addKind 25 = .ok (.getfield 23, 3) := by decide +kernel
theorem dX6_addKind_28 : decode cX6_addKind 28 = .ok (.aload_n 1, 1) := by decide +kernel
theorem dX6_addKind_29 : decode cX6_addKind 29 = .ok (.invokespecial 30, 3) := by decide +kernel
theorem dX6_addKind_32 : decode cX6_addKind 32 = .ok (.aastore, 1) := by decide +kernel
theorem dX6_addKind_33 : decode cX6_addKind 33 = .ok (.aload_n 0, 1) := by decide +kernel
theorem dX6_addKind_34 : decode cX6_addKind 34 = .ok (.dup, 1) := by decide +kernel
theorem dX6_addKind_35 : decode cX6_addKind 35 = .ok (.getfield 23, 3) := by decide +kernel
theorem dX6_addKind_38 : decode cX6_addKind 38 = .ok (.iconst 1, 1) := by decide +kernel
theorem dX6_addKind_39 : decode cX6_addKind 39 = .ok (.iadd, 1) := by decide +kernel
theorem dX6_addKind_40 : decode cX6_addKind 40 = .ok (.putfield 23, 3) := by decide +kernel
theorem dX6_addKind_43 : decode cX6_addKind 43 = .ok (.aload_n 1, 1) := by decide +kernel
end
section
theorem dX6_addKind_44 : decode cX6_addKind 44 = .ok (.ifnull 8, 3) := by decide +kernel
theorem dX6_addKind_47 : decode cX6_addKind 47 = .ok (.aload_n 1, 1) := by decide +kernel
theorem dX6_addKind_48 : decode cX6_addKind 48 = .ok (.iconst 1, 1) := by decide +kernel
theorem dX6_addKind_49 : decode cX6_addKind 49 = .ok (.putfield 33, 3) := by decide +kernel
theorem dX6_addKind_52 : decode cX6_addKind 52 = .ok (.aload_n 0, 1) := by decide +kernel
theorem dX6_addKind_53 : decode cX6_addKind 53 = .ok (.getfield 23, 3) := by decide +kernel
theorem dX6_addKind_56 : decode cX6_addKind 56 = .ok (.iconst 1, 1) := by decide +kernel
theorem dX6_addKind_57 : decode cX6_addKind 57 = .ok (.isub, 1) := by decide +kernel
theorem dX6_addKind_58 : decode cX6_addKind 58 = .ok (.ireturn, 1) := by decide +kernel
theorem dX6_addMethod_0 : decode cX6_addMethod 0 = .ok (.aload_n 0, 1) := by decide +kernel
theorem dX6_addMethod_1 : decode cX6_addMethod 1 = .ok (.getfield 27, 3) := by decide +kernel
theorem dX6_addMethod_4 : decode cX6_addMethod 4 = .ok (.bipush 64, 2) := by decide +kernel
theorem dX6_addMethod_6 : decode cX6_addMethod 6 = .ok (.if_icmp .lt 6, 3) := by decide +kernel
theorem dX6_addMethod_9 : decode cX6_addMethod 9 = .ok (.bipush (-2), 2) := by decide +kernel
theorem dX6_addMethod_11 : decode cX6_addMethod 11 = .ok (.ireturn, 1) := by decide +kernel
theorem dX6_addMethod_12 : decode cX6_addMethod 12 = .ok (.aload_n 0, 1) := by decide +kernel
theorem dX6_addMethod_13 : decode cX6_addMethod 13 = .ok (.getfield 19, 3) := by decide +kernel
theorem dX6_addMethod_16 : decode cX6_addMethod 16 = .ok (.aload_n 0, 1) := by decide +kernel
theorem dX6_addMethod_17 : decode cX6_addMethod 17 = .ok (.getfield 27, 3) := by decide +kernel
theorem dX6_addMethod_20 : decode cX6_addMethod 20 = .ok (.new 17, 3) := by decide +kernel
theorem dX6_addMethod_23 : decode cX6_addMethod 23 = .ok (.dup, 1) := by decide +kernel
theorem dX6_addMethod_24 : decode cX6_addMethod 24 = .ok (.aload_n 1, 1) := by decide +kernel
theorem dX6_addMethod_25 : decode cX6_addMethod 25 = .ok (.iload_n 2, 1) := by decide +kernel
theorem dX6_addMethod_26 : decode cX6_addMethod 26 = .ok (.iload_n 3, 1) := by decide +kernel
theorem dX6_addMethod_27 : decode cX6_addMethod 27 = .ok (.iload 4, 2) := by decide +kernel
theorem dX6_addMethod_29 : decode cX6_addMethod 29 = .ok (.invokespecial 37, 3) := by decide +kernel
theorem dX6_addMethod_32 : decode cX6_addMethod 32 = .ok (.aastore, 1) := by decide +kernel
theorem dX6_addMethod_33 : decode cX6_addMethod 33 = .ok (.aload_n 0, 1) := by decide +kernel
theorem dX6_addMethod_34 : decode cX6_addMethod 34 = .ok (.dup, 1) := by decide +kernel
theorem dX6_addMethod_35 : decode cX6_addMethod 35 = .ok (.getfield 27, 3) := by decide +kernel
theorem dX6_addMethod_38 : decode cX6_addMethod 38 = .ok (.iconst 1, 1) := by decide +kernel
theorem dX6_addMethod_39 : decode cX6_addMethod 39 = .ok (.iadd, 1) := by decide +kernel
theorem dX6_addMethod_40 : decode cX6_addMethod 40 = .ok (.putfield 27, 3) := by decide +kernel
theorem dX6_addMethod_43 : decode cX6_addMethod 43 = .ok (.aload_n 1, 1) := by decide +kernel
theorem dX6_addMethod_44 : decode cX6_addMethod 44 = .ok (.ifnull 8, 3) := by decide +kernel
theorem dX6_addMethod_47 : decode cX6_addMethod 47 = .ok (.aload_n 1, 1) := by decide +kernel
theorem dX6_addMethod_48 : decode cX6_addMethod 48 = .ok (.iconst 1, 1) := by decide +kernel
theorem dX6_addMethod_49 : decode cX6_addMethod 49 = .ok (.putfield 40, 3) := by decide +kernel
theorem dX6_addMethod_52 : decode cX6_addMethod 52 = .ok (.aload_n 0, 1) := by decide +kernel
theorem dX6_addMethod_53 : decode cX6_addMethod 53 = .ok (.getfield 27, 3) := by decide +kernel
theorem dX6_addMethod_56 : decode cX6_addMethod 56 = .ok (.iconst 1, 1) := by decide +kernel
theorem dX6_addMethod_57 : decode cX6_addMethod 57 = .ok (.isub, 1) := by decide +kernel
theorem dX6_addMethod_58 : decode cX6_addMethod 58 = .ok (.ireturn, 1) := by decide +kernel
theorem dX6_isType_0 : decode cX6_isType 0 = .ok (.iload_n 1, 1) := by decide +kernel
theorem dX6_isType_1 : decode cX6_isType 1 = .ok (.invokestatic 43, 3) := by decide +kernel
theorem dX6_isType_4 : decode cX6_isType 4 = .ok (.ifCond .eq 26, 3) := by decide +kernel
theorem dX6_isType_7 : decode cX6_isType 7 = .ok (.iload_n 1, 1) := by decide +kernel
theorem dX6_isType_8 : decode cX6_isType 8 = .ok (.bipush 64, 2) := by decide +kernel
theorem dX6_isType_10 : decode cX6_isType 10 = .ok (.if_icmp .eq 14, 3) := by decide +kernel
theorem dX6_isType_13 : decode cX6_isType 13 = .ok (.aload_n 0, 1) := by decide +kernel
theorem dX6_isType_14 : decode cX6_isType 14 = .ok (.iload_n 1, 1) := by decide +kernel
theorem dX6_isType_15 : decode cX6_isType 15 = .ok (.invokestatic 47, 3) := by decide +kernel
theorem dX6_isType_18 : decode cX6_isType 18 = .ok (.invokevirtual 51, 3) := by decide +kernel
theorem dX6_isType_21 : decode cX6_isType 21 = .ok (.ifnull 7, 3) := by decide +kernel
theorem dX6_isType_24 : decode cX6_isType 24 = .ok (.iconst 1, 1) := by decide +kernel
theorem dX6_isType_25 : decode cX6_isType 25 = .ok (.goto 4, 3) := by decide +kernel
theorem dX6_isType_28 : decode cX6_isType 28 = .ok (.iconst 0, 1) := by decide +kernel
theorem dX6_isType_29 : decode cX6_isType 29 = .ok (.ireturn, 1) := by decide +kernel
theorem dX6_isType_30 : decode cX6_isType 30 = .ok (.iload_n 1, 1) := by decide +kernel
theorem dX6_isType_31 : decode cX6_isType 31 = .ok (.ifCond .eq 11, 3) := by decide +kernel
theorem dX6_isType_34 : decode cX6_isType 34 = .ok (.aload_n 0, 1) := by decide +kernel
theorem dX6_isType_35 : decode cX6_isType 35 = .ok (.iload_n 1, 1) := by decide +kernel
theorem dX6_isType_36 : decode cX6_isType 36 = .ok (.invokevirtual 51, 3) := by decide +kernel
theorem dX6_isType_39 : decode cX6_isType 39 = .ok (.ifnull 7, 3) := by decide +kernel
theorem dX6_isType_42 : decode cX6_isType 42 = .ok (.iconst 1, 1) := by decide +kernel
theorem dX6_isType_43 : decode cX6_isType 43 = .ok (.goto 4, 3) := by decide +kernel
theorem dX6_isType_46 : decode cX6_isType 46 = .ok (.iconst 0, 1) := by decide +kernel
theorem dX6_isType_47 : decode cX6_isType 47 = .ok (.ireturn, 1) := by decide +kernel
theorem dX6_areOperands_0 : decode cX6_areOperands 0 = .ok (.iload_n 2, 1) := by decide +kernel
theorem dX6_areOperands_1 : decode cX6_areOperands 1 = .ok (.bipush 19, 2) := by decide +kernel
theorem dX6_areOperands_3 : decode cX6_areOperands 3 = .ok (.if_icmp .lt 14, 3) := by decide +kernel
theorem dX6_areOperands_6 : decode cX6_areOperands 6 = .ok (.iload_n 2, 1) := by decide +kernel
theorem dX6_areOperands_7 : decode cX6_areOperands 7 = .ok (.bipush 25, 2) := by decide +kernel
theorem dX6_areOperands_9 : decode cX6_areOperands 9 = .ok (.if_icmp .gt 8, 3) := by decide +kernel
theorem dX6_areOperands_12 : decode cX6_areOperands 12 = .ok (.iload_n 3, 1) := by decide +kernel
theorem dX6_areOperands_13 : decode cX6_areOperands 13 = .ok (.invokestatic 55, 3) := by decide +kernel
theorem dX6_areOperands_16 : decode cX6_areOperands 16 = .ok (.ireturn, 1) := by decide +kernel
theorem dX6_areOperands_17 : decode cX6_areOperands 17 = .ok (.iload_n 2, 1) := by decide +kernel
theorem dX6_areOperands_18 : decode cX6_areOperands 18 = .ok (.tableswitch 251 2 36 #[154, 154, 251, 251, 251, 251, 251, 251, 251, 251, 251, 251, 251, 251, 251, 251, 251, 251, 251, 251, 251, 251, 251, 251, 172, 186, 186, 172, 172, 203, 251, 251, 251, 221, 235], 154) := by decide +kernel
theorem dX6_areOperands_172 : decode cX6_areOperands 172 = .ok (.iload_n 3, 1) := by decide +kernel
theorem dX6_areOperands_173 : decode cX6_areOperands 173 = .ok (.ifCond .lt 15, 3) := by decide +kernel
theorem dX6_areOperands_176 : decode cX6_areOperands 176 = .ok (.iload_n 3, 1) := by decide +kernel
theorem dX6_areOperands_177 : decode cX6_areOperands 177 = .ok (.aload_n 1, 1) := by decide +kernel
theorem dX6_areOperands_178 : decode cX6_areOperands 178 = .ok (.getfield 58, 3) := by decide +kernel
theorem dX6_areOperands_181 : decode cX6_areOperands 181 = .ok (.if_icmp .ge 7, 3) := by decide +kernel
theorem dX6_areOperands_184 : decode cX6_areOperands 184 = .ok (.iconst 1, 1) := by decide +kernel
theorem dX6_areOperands_185 : decode cX6_areOperands 185 = .ok (.goto 4, 3) := by decide +kernel
theorem dX6_areOperands_188 : decode cX6_areOperands 188 = .ok (.iconst 0, 1) := by decide +kernel
theorem dX6_areOperands_189 : decode cX6_areOperands 189 = .ok (.ireturn, 1) := by decide +kernel
theorem dX6_areOperands_190 : decode cX6_areOperands 190 = .ok (.aload_n 0, 1) := by decide +kernel
theorem dX6_areOperands_191 : decode cX6_areOperands 191 = .ok (.iload_n 3, 1) := by decide +kernel
theorem dX6_areOperands_192 : decode cX6_areOperands 192 = .ok (.invokevirtual 61, 3) := by decide +kernel
theorem dX6_areOperands_195 : decode cX6_areOperands 195 = .ok (.ifnull 7, 3) := by decide +kernel
theorem dX6_areOperands_198 : decode cX6_areOperands 198 = .ok (.iconst 1, 1) := by decide +kernel
theorem dX6_areOperands_199 : decode cX6_areOperands 199 = .ok (.goto 4, 3) := by decide +kernel
theorem dX6_areOperands_202 : decode cX6_areOperands 202 = .ok (.iconst 0, 1) := by decide +kernel
theorem dX6_areOperands_203 : decode cX6_areOperands 203 = .ok (.ireturn, 1) := by decide +kernel
theorem dX6_areOperands_204 : decode cX6_areOperands 204 = .ok (.aload_n 0, 1) := by decide +kernel
theorem dX6_areOperands_205 : decode cX6_areOperands 205 = .ok (.iload_n 3, 1) := by decide +kernel
theorem dX6_areOperands_206 : decode cX6_areOperands 206 = .ok (.iload 4, 2) := by decide +kernel
theorem dX6_areOperands_208 : decode cX6_areOperands 208 = .ok (.invokevirtual 64, 3) := by decide +kernel
theorem dX6_areOperands_211 : decode cX6_areOperands 211 = .ok (.iconst (-1), 1) := by decide +kernel
theorem dX6_areOperands_212 : decode cX6_areOperands 212 = .ok (.if_icmp .eq 7, 3) := by decide +kernel
theorem dX6_areOperands_215 : decode cX6_areOperands 215 = .ok (.iconst 1, 1) := by decide +kernel
theorem dX6_areOperands_216 : decode cX6_areOperands 216 = .ok (.goto 4, 3) := by decide +kernel
theorem dX6_areOperands_219 : decode cX6_areOperands 219 = .ok (.iconst 0, 1) := by decide +kernel
theorem dX6_areOperands_220 : decode cX6_areOperands 220 = .ok (.ireturn, 1) := by decide +kernel
theorem dX6_areOperands_221 : decode cX6_areOperands 221 = .ok (.iload_n 3, 1) := by decide +kernel
theorem dX6_areOperands_222 : decode cX6_areOperands 222 = .ok (.ifCond .lt 15, 3) := by decide +kernel
theorem dX6_areOperands_225 : decode cX6_areOperands 225 = .ok (.iload_n 3, 1) := by decide +kernel
theorem dX6_areOperands_226 : decode cX6_areOperands 226 = .ok (.aload_n 0, 1) := by decide +kernel
theorem dX6_areOperands_227 : decode cX6_areOperands 227 = .ok (.getfield 23, 3) := by decide +kernel
theorem dX6_areOperands_230 : decode cX6_areOperands 230 = .ok (.if_icmp .gt 7, 3) := by decide +kernel
theorem dX6_areOperands_233 : decode cX6_areOperands 233 = .ok (.iconst 1, 1) := by decide +kernel
theorem dX6_areOperands_234 : decode cX6_areOperands 234 = .ok (.goto 4, 3) := by decide +kernel
theorem dX6_areOperands_237 : decode cX6_areOperands 237 = .ok (.iconst 0, 1) := by decide +kernel
theorem dX6_areOperands_238 : decode cX6_areOperands 238 = .ok (.ireturn, 1) := by decide +kernel
theorem dX6_areOperands_239 : decode cX6_areOperands 239 = .ok (.aload_n 0, 1) := by decide +kernel
theorem dX6_areOperands_240 : decode cX6_areOperands 240 = .ok (.iload_n 3, 1) := by decide +kernel
theorem dX6_areOperands_241 : decode cX6_areOperands 241 = .ok (.invokevirtual 68, 3) := by decide +kernel
theorem dX6_areOperands_244 : decode cX6_areOperands 244 = .ok (.ifnull 7, 3) := by decide +kernel
theorem dX6_areOperands_247 : decode cX6_areOperands 247 = .ok (.iconst 1, 1) := by decide +kernel
theorem dX6_areOperands_248 : decode cX6_areOperands 248 = .ok (.goto 4, 3) := by decide +kernel
theorem dX6_areOperands_251 : decode cX6_areOperands 251 = .ok (.iconst 0, 1) := by decide +kernel
theorem dX6_areOperands_252 : decode cX6_areOperands 252 = .ok (.ireturn, 1) := by decide +kernel
theorem dX6_areOperands_253 : decode cX6_areOperands 253 = .ok (.aload_n 0, 1) := by decide +kernel
theorem dX6_areOperands_254 : decode cX6_areOperands 254 = .ok (.iload_n 3, 1) := by decide +kernel
theorem dX6_areOperands_255 : decode cX6_areOperands 255 = .ok (.iload 4, 2) := by decide +kernel
theorem dX6_areOperands_257 : decode cX6_areOperands 257 = .ok (.invokevirtual 72, 3) := by decide +kernel
theorem dX6_areOperands_260 : decode cX6_areOperands 260 = .ok (.ifnull 7, 3) := by decide +kernel
theorem dX6_areOperands_263 : decode cX6_areOperands 263 = .ok (.iconst 1, 1) := by decide +kernel
theorem dX6_areOperands_264 : decode cX6_areOperands 264 = .ok (.goto 4, 3) := by decide +kernel
theorem dX6_areOperands_267 : decode cX6_areOperands 267 = .ok (.iconst 0, 1) := by decide +kernel
theorem dX6_areOperands_268 : decode cX6_areOperands 268 = .ok (.ireturn, 1) := by decide +kernel
theorem dX6_areOperands_269 : decode cX6_areOperands 269 = .ok (.iload_n 2, 1) := by decide +kernel
theorem dX6_areOperands_270 : decode cX6_areOperands 270 = .ok (.ifCond .lt 13, 3) := by decide +kernel
theorem dX6_areOperands_273 : decode cX6_areOperands 273 = .ok (.iload_n 2, 1) := by decide +kernel
theorem dX6_areOperands_274 : decode cX6_areOperands 274 = .ok (.bipush 41, 2) := by decide +kernel
theorem dX6_areOperands_276 : decode cX6_areOperands 276 = .ok (.if_icmp .gt 7, 3) := by decide +kernel
theorem dX6_areOperands_279 : decode cX6_areOperands 279 = .ok (.iconst 1, 1) := by decide +kernel
theorem dX6_areOperands_280 : decode cX6_areOperands 280 = .ok (.goto 4, 3) := by decide +kernel
theorem dX6_areOperands_283 : decode cX6_areOperands 283 = .ok (.iconst 0, 1) := by decide +kernel
theorem dX6_areOperands_284 : decode cX6_areOperands 284 = .ok (.ireturn, 1) := by decide +kernel
theorem dX6_fieldType_0 : decode cX6_fieldType 0 = .ok (.aload_n 0, 1) := by decide +kernel
theorem dX6_fieldType_1 : decode cX6_fieldType 1 = .ok (.iload_n 1, 1) := by decide +kernel
theorem dX6_fieldType_2 : decode cX6_fieldType 2 = .ok (.invokevirtual 61, 3) := by decide +kernel
theorem dX6_fieldType_5 : decode cX6_fieldType 5 = .ok (.astore_n 3, 1) := by decide +kernel
theorem dX6_fieldType_6 : decode cX6_fieldType 6 = .ok (.aload_n 3, 1) := by decide +kernel
theorem dX6_fieldType_7 : decode cX6_fieldType 7 = .ok (.ifnonnull 7, 3) := by decide +kernel
theorem dX6_fieldType_10 : decode cX6_fieldType 10 = .ok (.iconst (-1), 1) := by decide +kernel
theorem dX6_fieldType_11 : decode cX6_fieldType 11 = .ok (.goto 8, 3) := by decide +kernel
theorem dX6_fieldType_14 : decode cX6_fieldType 14 = .ok (.aload_n 3, 1) := by decide +kernel
theorem dX6_fieldType_15 : decode cX6_fieldType 15 = .ok (.iload_n 2, 1) := by decide +kernel
theorem dX6_fieldType_16 : decode cX6_fieldType 16 = .ok (.invokevirtual 76, 3) := by decide +kernel
theorem dX6_fieldType_19 : decode cX6_fieldType 19 = .ok (.ireturn, 1) := by decide +kernel
theorem dX6_methodInSlot_0 : decode cX6_methodInSlot 0 = .ok (.aload_n 0, 1) := by decide +kernel
theorem dX6_methodInSlot_1 : decode cX6_methodInSlot 1 = .ok (.iload_n 1, 1) := by decide +kernel
theorem dX6_methodInSlot_2 : decode cX6_methodInSlot 2 = .ok (.invokevirtual 61, 3) := by decide +kernel
theorem dX6_methodInSlot_5 : decode cX6_methodInSlot 5 = .ok (.astore_n 3, 1) := by decide +kernel
theorem dX6_methodInSlot_6 : decode cX6_methodInSlot 6 = .ok (.aload_n 3, 1) := by decide +kernel
theorem dX6_methodInSlot_7 : decode cX6_methodInSlot 7 = .ok (.ifnonnull 7, 3) := by decide +kernel
theorem dX6_methodInSlot_10 : decode cX6_methodInSlot 10 = .ok (.aconst_null, 1) := by decide +kernel
theorem dX6_methodInSlot_11 : decode cX6_methodInSlot 11 = .ok (.goto 12, 3) := by decide +kernel
theorem dX6_methodInSlot_14 : decode cX6_methodInSlot 14 = .ok (.aload_n 0, 1) := by decide +kernel
theorem dX6_methodInSlot_15 : decode cX6_methodInSlot 15 = .ok (.aload_n 3, 1) := by decide +kernel
theorem dX6_methodInSlot_16 : decode cX6_methodInSlot 16 = .ok (.iload_n 2, 1) := by decide +kernel
theorem dX6_methodInSlot_17 : decode cX6_methodInSlot 17 = .ok (.invokevirtual 78, 3) := by decide +kernel
theorem dX6_methodInSlot_20 : decode cX6_methodInSlot 20 = .ok (.invokevirtual 68, 3) := by decide +kernel
theorem dX6_methodInSlot_23 : decode cX6_methodInSlot 23 = .ok (.areturn, 1) := by decide +kernel
theorem dX6_goesInto_0 : decode cX6_goesInto 0 = .ok (.iload_n 1, 1) := by decide +kernel
theorem dX6_goesInto_1 : decode cX6_goesInto 1 = .ok (.iload_n 2, 1) := by decide +kernel
theorem dX6_goesInto_2 : decode cX6_goesInto 2 = .ok (.if_icmp .ne 5, 3) := by decide +kernel
theorem dX6_goesInto_5 : decode cX6_goesInto 5 = .ok (.iconst 1, 1) := by decide +kernel
theorem dX6_goesInto_6 : decode cX6_goesInto 6 = .ok (.ireturn, 1) := by decide +kernel
theorem dX6_goesInto_7 : decode cX6_goesInto 7 = .ok (.iload_n 1, 1) := by decide +kernel
theorem dX6_goesInto_8 : decode cX6_goesInto 8 = .ok (.bipush 97, 2) := by decide +kernel
theorem dX6_goesInto_10 : decode cX6_goesInto 10 = .ok (.if_icmp .ne 22, 3) := by decide +kernel
theorem dX6_goesInto_13 : decode cX6_goesInto 13 = .ok (.iload_n 2, 1) := by decide +kernel
theorem dX6_goesInto_14 : decode cX6_goesInto 14 = .ok (.invokestatic 81, 3) := by decide +kernel
theorem dX6_goesInto_17 : decode cX6_goesInto 17 = .ok (.ifCond .eq 13, 3) := by decide +kernel
theorem dX6_goesInto_20 : decode cX6_goesInto 20 = .ok (.iload_n 2, 1) := by decide +kernel
theorem dX6_goesInto_21 : decode cX6_goesInto 21 = .ok (.bipush 98, 2) := by decide +kernel
theorem dX6_goesInto_23 : decode cX6_goesInto 23 = .ok (.if_icmp .eq 7, 3) := by decide +kernel
theorem dX6_goesInto_26 : decode cX6_goesInto 26 = .ok (.iconst 1, 1) := by decide +kernel
theorem dX6_goesInto_27 : decode cX6_goesInto 27 = .ok (.goto 4, 3) := by decide +kernel
theorem dX6_goesInto_30 : decode cX6_goesInto 30 = .ok (.iconst 0, 1) := by decide +kernel
theorem dX6_goesInto_31 : decode cX6_goesInto 31 = .ok (.ireturn, 1) := by decide +kernel
theorem dX6_goesInto_32 : decode cX6_goesInto 32 = .ok (.aload_n 0, 1) := by decide +kernel
theorem dX6_goesInto_33 : decode cX6_goesInto 33 = .ok (.iload_n 1, 1) := by decide +kernel
theorem dX6_goesInto_34 : decode cX6_goesInto 34 = .ok (.invokevirtual 51, 3) := by decide +kernel
theorem dX6_goesInto_37 : decode cX6_goesInto 37 = .ok (.astore_n 3, 1) := by decide +kernel
theorem dX6_goesInto_38 : decode cX6_goesInto 38 = .ok (.aload_n 0, 1) := by decide +kernel
theorem dX6_goesInto_39 : decode cX6_goesInto 39 = .ok (.iload_n 2, 1) := by decide +kernel
theorem dX6_goesInto_40 : decode cX6_goesInto 40 = .ok (.invokevirtual 51, 3) := by decide +kernel
theorem dX6_goesInto_43 : decode cX6_goesInto 43 = .ok (.astore 4, 2) := by decide +kernel
theorem dX6_goesInto_45 : decode cX6_goesInto 45 = .ok (.aload_n 3, 1) := by decide +kernel
theorem dX6_goesInto_46 : decode cX6_goesInto 46 = .ok (.ifnull 24, 3) := by decide +kernel
theorem dX6_goesInto_49 : decode cX6_goesInto 49 = .ok (.aload 4, 2) := by decide +kernel
theorem dX6_goesInto_51 : decode cX6_goesInto 51 = .ok (.ifnull 19, 3) := by decide +kernel
theorem dX6_goesInto_54 : decode cX6_goesInto 54 = .ok (.aload_n 3, 1) := by decide +kernel
theorem dX6_goesInto_55 : decode cX6_goesInto 55 = .ok (.aload 4, 2) := by decide +kernel
theorem dX6_goesInto_57 : decode cX6_goesInto 57 = .ok (.getfield 84, 3) := by decide +kernel
theorem dX6_goesInto_60 : decode cX6_goesInto 60 = .ok (.invokevirtual 87, 3) := by decide +kernel
theorem dX6_goesInto_63 : decode cX6_goesInto 63 = .ok (.ifCond .eq 7, 3) := by decide +kernel
theorem dX6_goesInto_66 : decode cX6_goesInto 66 = .ok (.iconst 1, 1) := by decide +kernel
theorem dX6_goesInto_67 : decode cX6_goesInto 67 = .ok (.goto 4, 3) := by decide +kernel
theorem dX6_goesInto_70 : decode cX6_goesInto 70 = .ok (.iconst 0, 1) := by decide +kernel
theorem dX6_goesInto_71 : decode cX6_goesInto 71 = .ok (.ireturn, 1) := by decide +kernel
theorem dX6_meeting_0 : decode cX6_meeting 0 = .ok (.iload_n 1, 1) := by decide +kernel
theorem dX6_meeting_1 : decode cX6_meeting 1 = .ok (.iload_n 2, 1) := by decide +kernel
theorem dX6_meeting_2 : decode cX6_meeting 2 = .ok (.if_icmp .ne 5, 3) := by decide +kernel
theorem dX6_meeting_5 : decode cX6_meeting 5 = .ok (.iload_n 1, 1) := by decide +kernel
theorem dX6_meeting_6 : decode cX6_meeting 6 = .ok (.ireturn, 1) := by decide +kernel
theorem dX6_meeting_7 : decode cX6_meeting 7 = .ok (.iload_n 1, 1) := by decide +kernel
theorem dX6_meeting_8 : decode cX6_meeting 8 = .ok (.invokestatic 81, 3) := by decide +kernel
theorem dX6_meeting_11 : decode cX6_meeting 11 = .ok (.ifCond .eq 10, 3) := by decide +kernel
theorem dX6_meeting_14 : decode cX6_meeting 14 = .ok (.iload_n 2, 1) := by decide +kernel
theorem dX6_meeting_15 : decode cX6_meeting 15 = .ok (.invokestatic 81, 3) := by decide +kernel
theorem dX6_meeting_18 : decode cX6_meeting 18 = .ok (.ifCond .ne 6, 3) := by decide +kernel
theorem dX6_meeting_21 : decode cX6_meeting 21 = .ok (.bipush 99, 2) := by decide +kernel
theorem dX6_meeting_23 : decode cX6_meeting 23 = .ok (.ireturn, 1) := by decide +kernel
theorem dX6_meeting_24 : decode cX6_meeting 24 = .ok (.iload_n 1, 1) := by decide +kernel
theorem dX6_meeting_25 : decode cX6_meeting 25 = .ok (.bipush 97, 2) := by decide +kernel
theorem dX6_meeting_27 : decode cX6_meeting 27 = .ok (.if_icmp .ne 5, 3) := by decide +kernel
theorem dX6_meeting_30 : decode cX6_meeting 30 = .ok (.iload_n 2, 1) := by decide +kernel
theorem dX6_meeting_31 : decode cX6_meeting 31 = .ok (.ireturn, 1) := by decide +kernel
theorem dX6_meeting_32 : decode cX6_meeting 32 = .ok (.iload_n 2, 1) := by decide +kernel
theorem dX6_meeting_33 : decode cX6_meeting 33 = .ok (.bipush 97, 2) := by decide +kernel
theorem dX6_meeting_35 : decode cX6_meeting 35 = .ok (.if_icmp .ne 5, 3) := by decide +kernel
theorem dX6_meeting_38 : decode cX6_meeting 38 = .ok (.iload_n 1, 1) := by decide +kernel
theorem dX6_meeting_39 : decode cX6_meeting 39 = .ok (.ireturn, 1) := by decide +kernel
theorem dX6_meeting_40 : decode cX6_meeting 40 = .ok (.aload_n 0, 1) := by decide +kernel
theorem dX6_meeting_41 : decode cX6_meeting 41 = .ok (.iload_n 1, 1) := by decide +kernel
theorem dX6_meeting_42 : decode cX6_meeting 42 = .ok (.invokevirtual 51, 3) := by decide +kernel
theorem dX6_meeting_45 : decode cX6_meeting 45 = .ok (.aload_n 0, 1) := by decide +kernel
theorem dX6_meeting_46 : decode cX6_meeting 46 = .ok (.iload_n 2, 1) := by decide +kernel
theorem dX6_meeting_47 : decode cX6_meeting 47 = .ok (.invokevirtual 51, 3) := by decide +kernel
theorem dX6_meeting_50 : decode cX6_meeting 50 = .ok (.invokestatic 90, 3) := by decide +kernel
theorem dX6_meeting_53 : decode cX6_meeting 53 = .ok (.ireturn, 1) := by decide +kernel
theorem dX6_lowestAboveBoth_0 : decode cX6_lowestAboveBoth 0 = .ok (.aload_n 0, 1) := by decide +kernel
theorem dX6_lowestAboveBoth_1 : decode cX6_lowestAboveBoth 1 = .ok (.ifnull 7, 3) := by decide +kernel
theorem dX6_lowestAboveBoth_4 : decode cX6_lowestAboveBoth 4 = .ok (.aload_n 1, 1) := by decide +kernel
theorem dX6_lowestAboveBoth_5 : decode cX6_lowestAboveBoth 5 = .ok (.ifnonnull 6, 3) := by decide +kernel
theorem dX6_lowestAboveBoth_8 : decode cX6_lowestAboveBoth 8 = .ok (.bipush 98, 2) := by decide +kernel
theorem dX6_lowestAboveBoth_10 : decode cX6_lowestAboveBoth 10 = .ok (.ireturn, 1) := by decide +kernel
theorem dX6_lowestAboveBoth_11 : decode cX6_lowestAboveBoth 11 = .ok (.aload_n 0, 1) := by decide +kernel
theorem dX6_lowestAboveBoth_12 : decode cX6_lowestAboveBoth 12 = .ok (.getfield 94, 3) := by decide +kernel
theorem dX6_lowestAboveBoth_15 : decode cX6_lowestAboveBoth 15 = .ok (.aload_n 1, 1) := by decide +kernel
theorem dX6_lowestAboveBoth_16 : decode cX6_lowestAboveBoth 16 = .ok (.getfield 94, 3) := by decide +kernel
theorem dX6_lowestAboveBoth_19 : decode cX6_lowestAboveBoth 19 = .ok (.iand, 1) := by decide +kernel
theorem dX6_lowestAboveBoth_20 : decode cX6_lowestAboveBoth 20 = .ok (.istore_n 2, 1) := by decide +kernel
theorem dX6_lowestAboveBoth_21 : decode cX6_lowestAboveBoth 21 = .ok (.bipush 31, 2) := by decide +kernel
theorem dX6_lowestAboveBoth_23 : decode cX6_lowestAboveBoth 23 = .ok (.istore_n 3, 1) := by decide +kernel
theorem dX6_lowestAboveBoth_24 : decode cX6_lowestAboveBoth 24 = .ok (.iload_n 3, 1) := by decide +kernel
theorem dX6_lowestAboveBoth_25 : decode cX6_lowestAboveBoth 25 = .ok (.ifCond .lt 21, 3) := by decide +kernel
theorem dX6_lowestAboveBoth_28 : decode cX6_lowestAboveBoth 28 = .ok (.iload_n 2, 1) := by decide +kernel
theorem dX6_lowestAboveBoth_29 : decode cX6_lowestAboveBoth 29 = .ok (.iload_n 3, 1) := by decide +kernel
theorem dX6_lowestAboveBoth_30 : decode cX6_lowestAboveBoth 30 = .ok (.iushr, 1) := by decide +kernel
theorem dX6_lowestAboveBoth_31 : decode cX6_lowestAboveBoth 31 = .ok (.iconst 1, 1) := by decide +kernel
theorem dX6_lowestAboveBoth_32 : decode cX6_lowestAboveBoth 32 = .ok (.iand, 1) := by decide +kernel
theorem dX6_lowestAboveBoth_33 : decode cX6_lowestAboveBoth 33 = .ok (.ifCond .eq 7, 3) := by decide +kernel
theorem dX6_lowestAboveBoth_36 : decode cX6_lowestAboveBoth 36 = .ok (.iconst 1, 1) := by decide +kernel
theorem dX6_lowestAboveBoth_37 : decode cX6_lowestAboveBoth 37 = .ok (.iload_n 3, 1) := by decide +kernel
theorem dX6_lowestAboveBoth_38 : decode cX6_lowestAboveBoth 38 = .ok (.iadd, 1) := by decide +kernel
theorem dX6_lowestAboveBoth_39 : decode cX6_lowestAboveBoth 39 = .ok (.ireturn, 1) := by decide +kernel
theorem dX6_lowestAboveBoth_40 : decode cX6_lowestAboveBoth 40 = .ok (.iinc 3 (-1), 3) := by decide +kernel
theorem dX6_lowestAboveBoth_43 : decode cX6_lowestAboveBoth 43 = .ok (.goto (-19), 3) := by decide +kernel
theorem dX6_lowestAboveBoth_46 : decode cX6_lowestAboveBoth 46 = .ok (.bipush 98, 2) := by decide +kernel
theorem dX6_lowestAboveBoth_48 : decode cX6_lowestAboveBoth 48 = .ok (.ireturn, 1) := by decide +kernel
theorem dX6_kindOf_0 : decode cX6_kindOf 0 = .ok (.iload_n 1, 1) := by decide +kernel
theorem dX6_kindOf_1 : decode cX6_kindOf 1 = .ok (.iconst 1, 1) := by decide +kernel
theorem dX6_kindOf_2 : decode cX6_kindOf 2 = .ok (.isub, 1) := by decide +kernel
theorem dX6_kindOf_3 : decode cX6_kindOf 3 = .ok (.istore_n 2, 1) := by decide +kernel
theorem dX6_kindOf_4 : decode cX6_kindOf 4 = .ok (.iload_n 2, 1) := by decide +kernel
theorem dX6_kindOf_5 : decode cX6_kindOf 5 = .ok (.ifCond .lt 26, 3) := by decide +kernel
theorem dX6_kindOf_8 : decode cX6_kindOf 8 = .ok (.iload_n 2, 1) := by decide +kernel
theorem dX6_kindOf_9 : decode cX6_kindOf 9 = .ok (.aload_n 0, 1) := by decide +kernel
theorem dX6_kindOf_10 : decode cX6_kindOf 10 = .ok (.getfield 23, 3) := by decide +kernel
theorem dX6_kindOf_13 : decode cX6_kindOf 13 = .ok (.if_icmp .ge 18, 3) := by decide +kernel
theorem dX6_kindOf_16 : decode cX6_kindOf 16 = .ok (.iload_n 2, 1) := by decide +kernel
theorem dX6_kindOf_17 : decode cX6_kindOf 17 = .ok (.bipush 32, 2) := by decide +kernel
theorem dX6_kindOf_19 : decode cX6_kindOf 19 = .ok (.if_icmp .ge 12, 3) := by decide +kernel
theorem dX6_kindOf_22 : decode cX6_kindOf 22 = .ok (.aload_n 0, 1) := by decide +kernel
theorem dX6_kindOf_23 : decode cX6_kindOf 23 = .ok (.getfield 11, 3) := by decide +kernel
theorem dX6_kindOf_26 : decode cX6_kindOf 26 = .ok (.iload_n 2, 1) := by decide +kernel
theorem dX6_kindOf_27 : decode cX6_kindOf 27 = .ok (.aaload, 1) := by decide +kernel
theorem dX6_kindOf_28 : decode cX6_kindOf 28 = .ok (.goto 4, 3) := by decide +kernel
theorem dX6_kindOf_31 : decode cX6_kindOf 31 = .ok (.aconst_null, 1) := by decide +kernel
theorem dX6_kindOf_32 : decode cX6_kindOf 32 = .ok (.areturn, 1) := by decide +kernel
theorem dX7_init_0 : decode cX7_init 0 = .ok (.aload_n 0, 1) := by decide +kernel
theorem dX7_init_1 : decode cX7_init 1 = .ok (.invokespecial 3, 3) := by decide +kernel
theorem dX7_init_4 : decode cX7_init 4 = .ok (.aload_n 0, 1) := by decide +kernel
theorem dX7_init_5 : decode cX7_init 5 = .ok (.aload_n 1, 1) := by decide +kernel
theorem dX7_init_6 : decode cX7_init 6 = .ok (.putfield 9, 3) := by decide +kernel
theorem dX7_init_9 : decode cX7_init 9 = .ok (.aload_n 0, 1) := by decide +kernel
theorem dX7_init_10 : decode cX7_init 10 = .ok (.new 15, 3) := by decide +kernel
theorem dX7_init_13 : decode cX7_init 13 = .ok (.dup, 1) := by decide +kernel
theorem dX7_init_14 : decode cX7_init 14 = .ok (.invokespecial 17, 3) := by decide +kernel
theorem dX7_init_17 : decode cX7_init 17 = .ok (.putfield 18, 3) := by decide +kernel
theorem dX7_init_20 : decode cX7_init 20 = .ok (.aload_n 0, 1) := by decide +kernel
theorem dX7_init_21 : decode cX7_init 21 = .ok (.new 22, 3) := by decide +kernel
theorem dX7_init_24 : decode cX7_init 24 = .ok (.dup, 1) := by decide +kernel
theorem dX7_init_25 : decode cX7_init 25 = .ok (.aload_n 1, 1) := by decide +kernel
theorem dX7_init_26 : decode cX7_init 26 = .ok (.aload_n 0, 1) := by decide +kernel
theorem dX7_init_27 : decode cX7_init 27 = .ok (.getfield 18, 3) := by decide +kernel
theorem dX7_init_30 : decode cX7_init 30 = .ok (.invokespecial 24, 3) := by decide +kernel
theorem dX7_init_33 : decode cX7_init 33 = .ok (.putfield 27, 3) := by decide +kernel
theorem dX7_init_36 : decode cX7_init 36 = .ok (.return_, 1) := by decide +kernel
theorem dX7_goOver_0 : decode cX7_goOver 0 = .ok (.aload_n 0, 1) := by decide +kernel
theorem dX7_goOver_1 : decode cX7_goOver 1 = .ok (.aload_n 1, 1) := by decide +kernel
theorem dX7_goOver_2 : decode cX7_goOver 2 = .ok (.invokevirtual 31, 3) := by decide +kernel
theorem dX7_goOver_5 : decode cX7_goOver 5 = .ok (.iconst 0, 1) := by decide +kernel
theorem dX7_goOver_6 : decode cX7_goOver 6 = .ok (.istore_n 2, 1) := by decide +kernel
theorem dX7_goOver_7 : decode cX7_goOver 7 = .ok (.iload_n 2, 1) := by decide +kernel
theorem dX7_goOver_8 : decode cX7_goOver 8 = .ok (.ldc 35, 2) := by decide +kernel
theorem dX7_goOver_10 : decode cX7_goOver 10 = .ok (.if_icmp .ge 37, 3) := by decide +kernel
theorem dX7_goOver_13 : decode cX7_goOver 13 = .ok (.aload_n 0, 1) := by decide +kernel
theorem dX7_goOver_14 : decode cX7_goOver 14 = .ok (.getfield 36, 3) := by decide +kernel
theorem dX7_goOver_17 : decode cX7_goOver 17 = .ok (.iconst (-1), 1) := by decide +kernel
theorem dX7_goOver_18 : decode cX7_goOver 18 = .ok (.if_icmp .ne 29, 3) := by decide +kernel
theorem dX7_goOver_21 : decode cX7_goOver 21 = .ok (.aload_n 0, 1) := by decide +kernel
theorem dX7_goOver_22 : decode cX7_goOver 22 = .ok (.aload_n 1, 1) := by decide +kernel
theorem dX7_goOver_23 : decode cX7_goOver 23 = .ok (.invokevirtual 40, 3) := by decide +kernel
theorem dX7_goOver_26 : decode cX7_goOver 26 = .ok (.istore_n 3, 1) := by decide +kernel
theorem dX7_goOver_27 : decode cX7_goOver 27 = .ok (.iload_n 3, 1) := by decide +kernel
theorem dX7_goOver_28 : decode cX7_goOver 28 = .ok (.iconst (-1), 1) := by decide +kernel
theorem dX7_goOver_29 : decode cX7_goOver 29 = .ok (.if_icmp .ne 6, 3) := by decide +kernel
theorem dX7_goOver_32 : decode cX7_goOver 32 = .ok (.goto 15, 3) := by decide +kernel
theorem dX7_goOver_35 : decode cX7_goOver 35 = .ok (.aload_n 0, 1) := by decide +kernel
theorem dX7_goOver_36 : decode cX7_goOver 36 = .ok (.aload_n 1, 1) := by decide +kernel
theorem dX7_goOver_37 : decode cX7_goOver 37 = .ok (.iload_n 3, 1) := by decide +kernel
theorem dX7_goOver_38 : decode cX7_goOver 38 = .ok (.invokevirtual 44, 3) := by decide +kernel
theorem dX7_goOver_41 : decode cX7_goOver 41 = .ok (.iinc 2 1, 3) := by decide +kernel
theorem dX7_goOver_44 : decode cX7_goOver 44 = .ok (.goto (-37), 3) := by decide +kernel
theorem dX7_goOver_47 : decode cX7_goOver 47 = .ok (.aload_n 0, 1) := by decide +kernel
theorem dX7_goOver_48 : decode cX7_goOver 48 = .ok (.getfield 36, 3) := by decide +kernel
theorem dX7_goOver_51 : decode cX7_goOver 51 = .ok (.ireturn, 1) := by decide +kernel
theorem dX7_begin_0 : decode cX7_begin 0 = .ok (.aload_n 0, 1) := by decide +kernel
theorem dX7_begin_1 : decode cX7_begin 1 = .ok (.iconst 0, 1) := by decide +kernel
theorem dX7_begin_2 : decode cX7_begin 2 = .ok (.putfield 48, 3) := by decide +kernel
theorem dX7_begin_5 : decode cX7_begin 5 = .ok (.aload_n 0, 1) := by decide +kernel
theorem dX7_begin_6 : decode cX7_begin 6 = .ok (.iconst 0, 1) := by decide +kernel
theorem dX7_begin_7 : decode cX7_begin 7 = .ok (.putfield 51, 3) := by decide +kernel
theorem dX7_begin_10 : decode cX7_begin 10 = .ok (.aload_n 1, 1) := by decide +kernel
theorem dX7_begin_11 : decode cX7_begin 11 = .ok (.iconst 1, 1) := by decide +kernel
theorem dX7_begin_12 : decode cX7_begin 12 = .ok (.putfield 54, 3) := by decide +kernel
theorem dX7_begin_15 : decode cX7_begin 15 = .ok (.iconst 0, 1) := by decide +kernel
theorem dX7_begin_16 : decode cX7_begin 16 = .ok (.istore_n 2, 1) := by decide +kernel
theorem dX7_begin_17 : decode cX7_begin 17 = .ok (.iload_n 2, 1) := by decide +kernel
theorem dX7_begin_18 : decode cX7_begin 18 = .ok (.aload_n 1, 1) := by decide +kernel
theorem dX7_begin_19 : decode cX7_begin 19 = .ok (.getfield 60, 3) := by decide +kernel
theorem dX7_begin_22 : decode cX7_begin 22 = .ok (.if_icmp .ge 29, 3) := by decide +kernel
theorem dX7_begin_25 : decode cX7_begin 25 = .ok (.aload_n 1, 1) := by decide +kernel
theorem dX7_begin_26 : decode cX7_begin 26 = .ok (.iload_n 2, 1) := by decide +kernel
theorem dX7_begin_27 : decode cX7_begin 27 = .ok (.invokevirtual 63, 3) := by decide +kernel
theorem dX7_begin_30 : decode cX7_begin 30 = .ok (.astore_n 3, 1) := by decide +kernel
theorem dX7_begin_31 : decode cX7_begin 31 = .ok (.aload_n 3, 1) := by decide +kernel
theorem dX7_begin_32 : decode cX7_begin 32 = .ok (.ifnull 13, 3) := by decide +kernel
theorem dX7_begin_35 : decode cX7_begin 35 = .ok (.aload_n 3, 1) := by decide +kernel
theorem dX7_begin_36 : decode cX7_begin 36 = .ok (.iconst 0, 1) := by decide +kernel
theorem dX7_begin_37 : decode cX7_begin 37 = .ok (.putfield 67, 3) := by decide +kernel
theorem dX7_begin_40 : decode cX7_begin 40 = .ok (.aload_n 3, 1) := by decide +kernel
theorem dX7_begin_41 : decode cX7_begin 41 = .ok (.iconst 0, 1) := by decide +kernel
theorem dX7_begin_42 : decode cX7_begin 42 = .ok (.putfield 72, 3) := by decide +kernel
theorem dX7_begin_45 : decode cX7_begin 45 = .ok (.iinc 2 1, 3) := by decide +kernel
theorem dX7_begin_48 : decode cX7_begin 48 = .ok (.goto (-31), 3) := by decide +kernel
theorem dX7_begin_51 : decode cX7_begin 51 = .ok (.aload_n 0, 1) := by decide +kernel
theorem dX7_begin_52 : decode cX7_begin 52 = .ok (.iconst (-1), 1) := by decide +kernel
theorem dX7_begin_53 : decode cX7_begin 53 = .ok (.putfield 36, 3) := by decide +kernel
theorem dX7_begin_56 : decode cX7_begin 56 = .ok (.aload_n 0, 1) := by decide +kernel
theorem dX7_begin_57 : decode cX7_begin 57 = .ok (.getfield 18, 3) := by decide +kernel
theorem dX7_begin_60 : decode cX7_begin 60 = .ok (.aload_n 1, 1) := by decide +kernel
theorem dX7_begin_61 : decode cX7_begin 61 = .ok (.invokevirtual 75, 3) := by decide +kernel
theorem dX7_begin_64 : decode cX7_begin 64 = .ok (.aload_n 0, 1) := by decide +kernel
theorem dX7_begin_65 : decode cX7_begin 65 = .ok (.aload_n 1, 1) := by decide +kernel
theorem dX7_begin_66 : decode cX7_begin 66 = .ok (.iconst 0, 1) := by decide +kernel
theorem dX7_begin_67 : decode cX7_begin 67 = .ok (.iconst 0, 1) := by decide +kernel
theorem dX7_begin_68 : decode cX7_begin 68 = .ok (.invokevirtual 76, 3) := by decide +kernel
theorem dX7_begin_71 : decode cX7_begin 71 = .ok (.return_, 1) := by decide +kernel
theorem dX7_leastMarked_0 : decode cX7_leastMarked 0 = .ok (.aload_n 0, 1) := by decide +kernel
theorem dX7_leastMarked_1 : decode cX7_leastMarked 1 = .ok (.getfield 51, 3) := by decide +kernel
theorem dX7_leastMarked_4 : decode cX7_leastMarked 4 = .ok (.istore_n 2, 1) := by decide +kernel
theorem dX7_leastMarked_5 : decode cX7_leastMarked 5 = .ok (.iload_n 2, 1) := by decide +kernel
theorem dX7_leastMarked_6 : decode cX7_leastMarked 6 = .ok (.aload_n 1, 1) := by decide +kernel
theorem dX7_leastMarked_7 : decode cX7_leastMarked 7 = .ok (.getfield 60, 3) := by decide +kernel
theorem dX7_leastMarked_10 : decode cX7_leastMarked 10 = .ok (.if_icmp .ge 33, 3) := by decide +kernel
theorem dX7_leastMarked_13 : decode cX7_leastMarked 13 = .ok (.aload_n 1, 1) := by decide +kernel
theorem dX7_leastMarked_14 : decode cX7_leastMarked 14 = .ok (.iload_n 2, 1) := by decide +kernel
theorem dX7_leastMarked_15 : decode cX7_leastMarked 15 = .ok (.invokevirtual 63, 3) := by decide +kernel
theorem dX7_leastMarked_18 : decode cX7_leastMarked 18 = .ok (.astore_n 3, 1) := by decide +kernel
theorem dX7_leastMarked_19 : decode cX7_leastMarked 19 = .ok (.aload_n 3, 1) := by decide +kernel
theorem dX7_leastMarked_20 : decode cX7_leastMarked 20 = .ok (.ifnull 17, 3) := by decide +kernel
theorem dX7_leastMarked_23 : decode cX7_leastMarked 23 = .ok (.aload_n 3, 1) := by decide +kernel
theorem dX7_leastMarked_24 : decode cX7_leastMarked 24 = .ok (.getfield 72, 3) := by decide +kernel
theorem dX7_leastMarked_27 : decode cX7_leastMarked 27 = .ok (.ifCond .eq 10, 3) := by decide +kernel
theorem dX7_leastMarked_30 : decode cX7_leastMarked 30 = .ok (.aload_n 0, 1) := by decide +kernel
theorem dX7_leastMarked_31 : decode cX7_leastMarked 31 = .ok (.iload_n 2, 1) := by decide +kernel
theorem dX7_leastMarked_32 : decode cX7_leastMarked 32 = .ok (.putfield 51, 3) := by decide +kernel
theorem dX7_leastMarked_35 : decode cX7_leastMarked 35 = .ok (.iload_n 2, 1) := by decide +kernel
theorem dX7_leastMarked_36 : decode cX7_leastMarked 36 = .ok (.ireturn, 1) := by decide +kernel
theorem dX7_leastMarked_37 : decode cX7_leastMarked 37 = .ok (.iinc 2 1, 3) := by decide +kernel
theorem dX7_leastMarked_40 : decode cX7_leastMarked 40 = .ok (.goto (-35), 3) := by decide +kernel
theorem dX7_leastMarked_43 : decode cX7_leastMarked 43 = .ok (.iconst (-1), 1) := by decide +kernel
theorem dX7_leastMarked_44 : decode cX7_leastMarked 44 = .ok (.ireturn, 1) := by decide +kernel
theorem dX7_lookAt_0 : decode cX7_lookAt 0 = .ok (.aload_n 1, 1) := by decide +kernel
theorem dX7_lookAt_1 : decode cX7_lookAt 1 = .ok (.iload_n 2, 1) := by decide +kernel
theorem dX7_lookAt_2 : decode cX7_lookAt 2 = .ok (.invokevirtual 63, 3) := by decide +kernel
theorem dX7_lookAt_5 : decode cX7_lookAt 5 = .ok (.astore_n 3, 1) := by decide +kernel
theorem dX7_lookAt_6 : decode cX7_lookAt 6 = .ok (.aload_n 3, 1) := by decide +kernel
theorem dX7_lookAt_7 : decode cX7_lookAt 7 = .ok (.ifnonnull 4, 3) := by decide +kernel
theorem dX7_lookAt_10 : decode cX7_lookAt 10 = .ok (.return_, 1) := by decide +kernel
theorem dX7_lookAt_11 : decode cX7_lookAt 11 = .ok (.aload_n 3, 1) := by decide +kernel
theorem dX7_lookAt_12 : decode cX7_lookAt 12 = .ok (.iconst 0, 1) := by decide +kernel
theorem dX7_lookAt_13 : decode cX7_lookAt 13 = .ok (.putfield 72, 3) := by decide +kernel
theorem dX7_lookAt_16 : decode cX7_lookAt 16 = .ok (.aload_n 0, 1) := by decide +kernel
theorem dX7_lookAt_17 : decode cX7_lookAt 17 = .ok (.dup, 1) := by decide +kernel
theorem dX7_lookAt_18 : decode cX7_lookAt 18 = .ok (.getfield 48, 3) := by decide +kernel
theorem dX7_lookAt_21 : decode cX7_lookAt 21 = .ok (.iconst 1, 1) := by decide +kernel
theorem dX7_lookAt_22 : decode cX7_lookAt 22 = .ok (.iadd, 1) := by decide +kernel
theorem dX7_lookAt_23 : decode cX7_lookAt 23 = .ok (.putfield 48, 3) := by decide +kernel
theorem dX7_lookAt_26 : decode cX7_lookAt 26 = .ok (.aload_n 0, 1) := by decide +kernel
theorem dX7_lookAt_27 : decode cX7_lookAt 27 = .ok (.aload_n 1, 1) := by decide +kernel
theorem dX7_lookAt_28 : decode cX7_lookAt 28 = .ok (.iload_n 2, 1) := by decide +kernel
theorem dX7_lookAt_29 : decode cX7_lookAt 29 = .ok (.aload_n 3, 1) := by decide +kernel
theorem dX7_lookAt_30 : decode cX7_lookAt 30 = .ok (.invokevirtual 80, 3) := by decide +kernel
theorem dX7_lookAt_33 : decode cX7_lookAt 33 = .ok (.aload_n 0, 1) := by decide +kernel
theorem dX7_lookAt_34 : decode cX7_lookAt 34 = .ok (.getfield 36, 3) := by decide +kernel
theorem dX7_lookAt_37 : decode cX7_lookAt 37 = .ok (.iconst (-1), 1) := by decide +kernel
theorem dX7_lookAt_38 : decode cX7_lookAt 38 = .ok (.if_icmp .eq 4, 3) := by decide +kernel
theorem dX7_lookAt_41 : decode cX7_lookAt 41 = .ok (.return_, 1) := by decide +kernel
theorem dX7_lookAt_42 : decode cX7_lookAt 42 = .ok (.aload_n 0, 1) := by decide +kernel
theorem dX7_lookAt_43 : decode cX7_lookAt 43 = .ok (.getfield 18, 3) := by decide +kernel
theorem dX7_lookAt_46 : decode cX7_lookAt 46 = .ok (.aload_n 3, 1) := by decide +kernel
theorem dX7_lookAt_47 : decode cX7_lookAt 47 = .ok (.getfield 84, 3) := by decide +kernel
theorem dX7_lookAt_50 : decode cX7_lookAt 50 = .ok (.invokevirtual 87, 3) := by decide +kernel
theorem dX7_lookAt_53 : decode cX7_lookAt 53 = .ok (.aload_n 0, 1) := by decide +kernel
theorem dX7_lookAt_54 : decode cX7_lookAt 54 = .ok (.getfield 27, 3) := by decide +kernel
theorem dX7_lookAt_57 : decode cX7_lookAt 57 = .ok (.aload_n 1, 1) := by decide +kernel
theorem dX7_lookAt_58 : decode cX7_lookAt 58 = .ok (.aload_n 3, 1) := by decide +kernel
theorem dX7_lookAt_59 : decode cX7_lookAt 59 = .ok (.invokevirtual 91, 3) := by decide +kernel
theorem dX7_lookAt_62 : decode cX7_lookAt 62 = .ok (.ifCond .ne 9, 3) := by decide +kernel
theorem dX7_lookAt_65 : decode cX7_lookAt 65 = .ok (.aload_n 0, 1) := by decide +kernel
theorem dX7_lookAt_66 : decode cX7_lookAt 66 = .ok (.iload_n 2, 1) := by decide +kernel
theorem dX7_lookAt_67 : decode cX7_lookAt 67 = .ok (.putfield 36, 3) := by decide +kernel
theorem dX7_lookAt_70 : decode cX7_lookAt 70 = .ok (.return_, 1) := by decide +kernel
theorem dX7_lookAt_71 : decode cX7_lookAt 71 = .ok (.aload_n 3, 1) := by decide +kernel
theorem dX7_lookAt_72 : decode cX7_lookAt 72 = .ok (.invokevirtual 95, 3) := by decide +kernel
theorem dX7_lookAt_75 : decode cX7_lookAt 75 = .ok (.ifCond .eq 12, 3) := by decide +kernel
theorem dX7_lookAt_78 : decode cX7_lookAt 78 = .ok (.aload_n 0, 1) := by decide +kernel
theorem dX7_lookAt_79 : decode cX7_lookAt 79 = .ok (.aload_n 1, 1) := by decide +kernel
theorem dX7_lookAt_80 : decode cX7_lookAt 80 = .ok (.iload_n 2, 1) := by decide +kernel
theorem dX7_lookAt_81 : decode cX7_lookAt 81 = .ok (.iload_n 2, 1) := by decide +kernel
theorem dX7_lookAt_82 : decode cX7_lookAt 82 = .ok (.iconst 1, 1) := by decide +kernel
theorem dX7_lookAt_83 : decode cX7_lookAt 83 = .ok (.iadd, 1) := by decide +kernel
theorem dX7_lookAt_84 : decode cX7_lookAt 84 = .ok (.invokevirtual 76, 3) := by decide +kernel
theorem dX7_lookAt_87 : decode cX7_lookAt 87 = .ok (.aload_n 3, 1) := by decide +kernel
theorem dX7_lookAt_88 : decode cX7_lookAt 88 = .ok (.invokevirtual 99, 3) := by decide +kernel
theorem dX7_lookAt_91 : decode cX7_lookAt 91 = .ok (.ifCond .eq 21, 3) := by decide +kernel
theorem dX7_lookAt_94 : decode cX7_lookAt 94 = .ok (.aload_n 0, 1) := by decide +kernel
theorem dX7_lookAt_95 : decode cX7_lookAt 95 = .ok (.getfield 36, 3) := by decide +kernel
theorem dX7_lookAt_98 : decode cX7_lookAt 98 = .ok (.iconst (-1), 1) := by decide +kernel
theorem dX7_lookAt_99 : decode cX7_lookAt 99 = .ok (.if_icmp .ne 13, 3) := by decide +kernel
theorem dX7_lookAt_102 : decode cX7_lookAt 102 = .ok (.aload_n 0, 1) := by decide +kernel
theorem dX7_lookAt_103 : decode cX7_lookAt 103 = .ok (.aload_n 1, 1) := by decide +kernel
theorem dX7_lookAt_104 : decode cX7_lookAt 104 = .ok (.iload_n 2, 1) := by decide +kernel
theorem dX7_lookAt_105 : decode cX7_lookAt 105 = .ok (.aload_n 3, 1) := by decide +kernel
theorem dX7_lookAt_106 : decode cX7_lookAt 106 = .ok (.getfield 102, 3) := by decide +kernel
theorem dX7_lookAt_109 : decode cX7_lookAt 109 = .ok (.invokevirtual 76, 3) := by decide +kernel
theorem dX7_lookAt_112 : decode cX7_lookAt 112 = .ok (.return_, 1) := by decide +kernel
theorem dX7_comeToHandlers_0 : decode cX7_comeToHandlers 0 = .ok (.iconst 0, 1) := by decide +kernel
theorem dX7_comeToHandlers_1 : decode cX7_comeToHandlers 1 = .ok (.istore 4, 2) := by decide +kernel
theorem dX7_comeToHandlers_3 : decode cX7_comeToHandlers 3 = .ok (.iload 4, 2) := by decide +kernel
theorem dX7_comeToHandlers_5 : decode cX7_comeToHandlers 5 = .ok (.aload_n 1, 1) := by decide +kernel
theorem dX7_comeToHandlers_6 : decode cX7_comeToHandlers 6 = .ok (.getfield 105, 3) := by decide +kernel
theorem dX7_comeToHandlers_9 : decode cX7_comeToHandlers 9 = .ok (.if_icmp .ge 97, 3) := by decide +kernel
theorem dX7_comeToHandlers_12 : decode cX7_comeToHandlers 12 = .ok (.aload_n 0, 1) := by decide +kernel
theorem dX7_comeToHandlers_13 : decode cX7_comeToHandlers 13 = .ok (.getfield 36, 3) := by decide +kernel
theorem dX7_comeToHandlers_16 : decode cX7_comeToHandlers 16 = .ok (.iconst (-1), 1) := by decide +kernel
theorem dX7_comeToHandlers_17 : decode cX7_comeToHandlers 17 = .ok (.if_icmp .ne 89, 3) := by decide +kernel
theorem dX7_comeToHandlers_20 : decode cX7_comeToHandlers 20 = .ok (.aload_n 1, 1) := by decide +kernel
theorem dX7_comeToHandlers_21 : decode cX7_comeToHandlers 21 = .ok (.iload 4, 2) := by decide +kernel
theorem dX7_comeToHandlers_23 : decode cX7_comeToHandlers 23 = .ok (.invokevirtual 108, 3) := by decide +kernel
theorem dX7_comeToHandlers_26 : decode cX7_comeToHandlers 26 = .ok (.astore 5, 2) := by decide +kernel
theorem dX7_comeToHandlers_28 : decode cX7_comeToHandlers 28 = .ok (.aload 5, 2) := by decide +kernel
theorem dX7_comeToHandlers_30 : decode cX7_comeToHandlers 30 = .ok (.ifnull 70, 3) := by decide +kernel
theorem dX7_comeToHandlers_33 : decode cX7_comeToHandlers 33 = .ok (.aload 5, 2) := by decide +kernel
theorem dX7_comeToHandlers_35 : decode cX7_comeToHandlers 35 = .ok (.iload_n 2, 1) := by decide +kernel
theorem dX7_comeToHandlers_36 : decode cX7_comeToHandlers 36 = .ok (.invokevirtual 112, 3) := by decide +kernel
theorem dX7_comeToHandlers_39 : decode cX7_comeToHandlers 39 = .ok (.ifCond .ne 6, 3) := by decide +kernel
theorem dX7_comeToHandlers_42 : decode cX7_comeToHandlers 42 = .ok (.goto 58, 3) := by decide +kernel
theorem dX7_comeToHandlers_45 : decode cX7_comeToHandlers 45 = .ok (.aload_n 0, 1) := by decide +kernel
theorem dX7_comeToHandlers_46 : decode cX7_comeToHandlers 46 = .ok (.getfield 18, 3) := by decide +kernel
theorem dX7_comeToHandlers_49 : decode cX7_comeToHandlers 49 = .ok (.aload_n 3, 1) := by decide +kernel
theorem dX7_comeToHandlers_50 : decode cX7_comeToHandlers 50 = .ok (.getfield 84, 3) := by decide +kernel
theorem dX7_comeToHandlers_53 : decode cX7_comeToHandlers 53 = .ok (.invokevirtual 87, 3) := by decide +kernel
theorem dX7_comeToHandlers_56 : decode cX7_comeToHandlers 56 = .ok (.aload_n 0, 1) := by decide +kernel
theorem dX7_comeToHandlers_57 : decode cX7_comeToHandlers 57 = .ok (.getfield 18, 3) := by decide +kernel
theorem dX7_comeToHandlers_60 : decode cX7_comeToHandlers 60 = .ok (.iconst 0, 1) := by decide +kernel
theorem dX7_comeToHandlers_61 : decode cX7_comeToHandlers 61 = .ok (.putfield 118, 3) := by decide +kernel
theorem dX7_comeToHandlers_64 : decode cX7_comeToHandlers 64 = .ok (.aload_n 0, 1) := by decide +kernel
theorem dX7_comeToHandlers_65 : decode cX7_comeToHandlers 65 = .ok (.getfield 18, 3) := by decide +kernel
theorem dX7_comeToHandlers_68 : decode cX7_comeToHandlers 68 = .ok (.iconst 1, 1) := by decide +kernel
theorem dX7_comeToHandlers_69 : decode cX7_comeToHandlers 69 = .ok (.aload 5, 2) := by decide +kernel
theorem dX7_comeToHandlers_71 : decode cX7_comeToHandlers 71 = .ok (.getfield 121, 3) := by decide +kernel
theorem dX7_comeToHandlers_74 : decode cX7_comeToHandlers 74 = .ok (.iadd, 1) := by decide +kernel
theorem dX7_comeToHandlers_75 : decode cX7_comeToHandlers 75 = .ok (.invokevirtual 124, 3) := by decide +kernel
theorem dX7_comeToHandlers_78 : decode cX7_comeToHandlers 78 = .ok (.ifCond .eq 17, 3) := by decide +kernel
theorem dX7_comeToHandlers_81 : decode cX7_comeToHandlers 81 = .ok (.aload_n 0, 1) := by decide +kernel
theorem dX7_comeToHandlers_82 : decode cX7_comeToHandlers 82 = .ok (.aload_n 1, 1) := by decide +kernel
theorem dX7_comeToHandlers_83 : decode cX7_comeToHandlers 83 = .ok (.iload_n 2, 1) := by decide +kernel
theorem dX7_comeToHandlers_84 : decode cX7_comeToHandlers 84 = .ok (.aload 5, 2) := by decide +kernel
theorem dX7_comeToHandlers_86 : decode cX7_comeToHandlers 86 = .ok (.getfield 127, 3) := by decide +kernel
theorem dX7_comeToHandlers_89 : decode cX7_comeToHandlers 89 = .ok (.invokevirtual 76, 3) := by decide +kernel
theorem dX7_comeToHandlers_92 : decode cX7_comeToHandlers 92 = .ok (.goto 8, 3) := by decide +kernel
theorem dX7_comeToHandlers_95 : decode cX7_comeToHandlers 95 = .ok (.aload_n 0, 1) := by decide +kernel
theorem dX7_comeToHandlers_96 : decode cX7_comeToHandlers 96 = .ok (.iload_n 2, 1) := by decide +kernel
theorem dX7_comeToHandlers_97 : decode cX7_comeToHandlers 97 = .ok (.putfield 36, 3) := by decide +kernel
theorem dX7_comeToHandlers_100 : decode cX7_comeToHandlers 100 = .ok (.iinc 4 1, 3) := by decide +kernel
theorem dX7_comeToHandlers_103 : decode cX7_comeToHandlers 103 = .ok (.goto (-100), 3) := by decide +kernel
theorem dX7_comeToHandlers_106 : decode cX7_comeToHandlers 106 = .ok (.return_, 1) := by decide +kernel
theorem dX7_come_0 : decode cX7_come 0 = .ok (.aload_n 1, 1) := by decide +kernel
theorem dX7_come_1 : decode cX7_come 1 = .ok (.iload_n 3, 1) := by decide +kernel
theorem dX7_come_2 : decode cX7_come 2 = .ok (.invokevirtual 63, 3) := by decide +kernel
theorem dX7_come_5 : decode cX7_come 5 = .ok (.astore 4, 2) := by decide +kernel
theorem dX7_come_7 : decode cX7_come 7 = .ok (.aload 4, 2) := by decide +kernel
theorem dX7_come_9 : decode cX7_come 9 = .ok (.ifnonnull 9, 3) := by decide +kernel
theorem dX7_come_12 : decode cX7_come 12 = .ok (.aload_n 0, 1) := by decide +kernel
theorem dX7_come_13 : decode cX7_come 13 = .ok (.iload_n 2, 1) := by decide +kernel
theorem dX7_come_14 : decode cX7_come 14 = .ok (.putfield 36, 3) := by decide +kernel
theorem dX7_come_17 : decode cX7_come 17 = .ok (.return_, 1) := by decide +kernel
theorem dX7_come_18 : decode cX7_come 18 = .ok (.aload 4, 2) := by decide +kernel
theorem dX7_come_20 : decode cX7_come 20 = .ok (.getfield 67, 3) := by decide +kernel
theorem dX7_come_23 : decode cX7_come 23 = .ok (.ifCond .ne 29, 3) := by decide +kernel
theorem dX7_come_26 : decode cX7_come 26 = .ok (.aload 4, 2) := by decide +kernel
theorem dX7_come_28 : decode cX7_come 28 = .ok (.iconst 1, 1) := by decide +kernel
theorem dX7_come_29 : decode cX7_come 29 = .ok (.putfield 67, 3) := by decide +kernel
theorem dX7_come_32 : decode cX7_come 32 = .ok (.aload 4, 2) := by decide +kernel
theorem dX7_come_34 : decode cX7_come 34 = .ok (.getfield 84, 3) := by decide +kernel
theorem dX7_come_37 : decode cX7_come 37 = .ok (.aload_n 0, 1) := by decide +kernel
theorem dX7_come_38 : decode cX7_come 38 = .ok (.getfield 18, 3) := by decide +kernel
theorem dX7_come_41 : decode cX7_come 41 = .ok (.invokevirtual 87, 3) := by decide +kernel
theorem dX7_come_44 : decode cX7_come 44 = .ok (.aload_n 0, 1) := by decide +kernel
theorem dX7_come_45 : decode cX7_come 45 = .ok (.aload 4, 2) := by decide +kernel
theorem dX7_come_47 : decode cX7_come 47 = .ok (.iload_n 3, 1) := by decide +kernel
theorem dX7_come_48 : decode cX7_come 48 = .ok (.invokevirtual 130, 3) := by decide +kernel
theorem dX7_come_51 : decode cX7_come 51 = .ok (.return_, 1) := by decide +kernel
theorem dX7_come_52 : decode cX7_come 52 = .ok (.aload 4, 2) := by decide +kernel
theorem dX7_come_54 : decode cX7_come 54 = .ok (.getfield 84, 3) := by decide +kernel
theorem dX7_come_57 : decode cX7_come 57 = .ok (.aload_n 0, 1) := by decide +kernel
theorem dX7_come_58 : decode cX7_come 58 = .ok (.getfield 18, 3) := by decide +kernel
theorem dX7_come_61 : decode cX7_come 61 = .ok (.aload_n 0, 1) := by decide +kernel
theorem dX7_come_62 : decode cX7_come 62 = .ok (.getfield 9, 3) := by decide +kernel
theorem dX7_come_65 : decode cX7_come 65 = .ok (.invokevirtual 134, 3) := by decide +kernel
theorem dX7_come_68 : decode cX7_come 68 = .ok (.istore 5, 2) := by decide +kernel
theorem dX7_come_70 : decode cX7_come 70 = .ok (.iload 5, 2) := by decide +kernel
theorem dX7_come_72 : decode cX7_come 72 = .ok (.iconst 2, 1) := by decide +kernel
theorem dX7_come_73 : decode cX7_come 73 = .ok (.if_icmp .ne 11, 3) := by decide +kernel
theorem dX7_come_76 : decode cX7_come 76 = .ok (.aload_n 0, 1) := by decide +kernel
theorem dX7_come_77 : decode cX7_come 77 = .ok (.iload_n 3, 1) := by decide +kernel
theorem dX7_come_78 : decode cX7_come 78 = .ok (.putfield 36, 3) := by decide +kernel
theorem dX7_come_81 : decode cX7_come 81 = .ok (.goto 16, 3) := by decide +kernel
theorem dX7_come_84 : decode cX7_come 84 = .ok (.iload 5, 2) := by decide +kernel
theorem dX7_come_86 : decode cX7_come 86 = .ok (.iconst 1, 1) := by decide +kernel
theorem dX7_come_87 : decode cX7_come 87 = .ok (.if_icmp .ne 10, 3) := by decide +kernel
theorem dX7_come_90 : decode cX7_come 90 = .ok (.aload_n 0, 1) := by decide +kernel
theorem dX7_come_91 : decode cX7_come 91 = .ok (.aload 4, 2) := by decide +kernel
theorem dX7_come_93 : decode cX7_come 93 = .ok (.iload_n 3, 1) := by decide +kernel
theorem dX7_come_94 : decode cX7_come 94 = .ok (.invokevirtual 130, 3) := by decide +kernel
theorem dX7_come_97 : decode cX7_come 97 = .ok (.return_, 1) := by decide +kernel
theorem dX7_mark_0 : decode cX7_mark 0 = .ok (.aload_n 1, 1) := by decide +kernel
theorem dX7_mark_1 : decode cX7_mark 1 = .ok (.iconst 1, 1) := by decide +kernel
theorem dX7_mark_2 : decode cX7_mark 2 = .ok (.putfield 72, 3) := by decide +kernel
theorem dX7_mark_5 : decode cX7_mark 5 = .ok (.aload_n 0, 1) := by decide +kernel
theorem dX7_mark_6 : decode cX7_mark 6 = .ok (.aload_n 0, 1) := by decide +kernel
theorem dX7_mark_7 : decode cX7_mark 7 = .ok (.getfield 51, 3) := by decide +kernel
theorem dX7_mark_10 : decode cX7_mark 10 = .ok (.iload_n 2, 1) := by decide +kernel
theorem dX7_mark_11 : decode cX7_mark 11 = .ok (.invokestatic 138, 3) := by decide +kernel
theorem dX7_mark_14 : decode cX7_mark 14 = .ok (.putfield 51, 3) := by decide +kernel
theorem dX7_mark_17 : decode cX7_mark 17 = .ok (.return_, 1) := by decide +kernel
theorem dX8_init_0 : decode cX8_init 0 = .ok (.aload_n 0, 1) := by decide +kernel
theorem dX8_init_1 : decode cX8_init 1 = .ok (.invokespecial 1, 3) := by decide +kernel
theorem dX8_init_4 : decode cX8_init 4 = .ok (.aload_n 0, 1) := by decide +kernel
theorem dX8_init_5 : decode cX8_init 5 = .ok (.new 7, 3) := by decide +kernel
theorem dX8_init_8 : decode cX8_init 8 = .ok (.dup, 1) := by decide +kernel
theorem dX8_init_9 : decode cX8_init 9 = .ok (.invokespecial 9, 3) := by decide +kernel
theorem dX8_init_12 : decode cX8_init 12 = .ok (.putfield 10, 3) := by decide +kernel
theorem dX8_init_15 : decode cX8_init 15 = .ok (.aload_n 0, 1) := by decide +kernel
theorem dX8_init_16 : decode cX8_init 16 = .ok (.new 16, 3) := by decide +kernel
theorem dX8_init_19 : decode cX8_init 19 = .ok (.dup, 1) := by decide +kernel
theorem dX8_init_20 : decode cX8_init 20 = .ok (.aload_n 0, 1) := by decide +kernel
theorem dX8_init_21 : decode cX8_init 21 = .ok (.getfield 10, 3) := by decide +kernel
theorem dX8_init_24 : decode cX8_init 24 = .ok (.invokespecial 18, 3) := by decide +kernel
theorem dX8_init_27 : decode cX8_init 27 = .ok (.putfield 21, 3) := by decide +kernel
theorem dX8_init_30 : decode cX8_init 30 = .ok (.return_, 1) := by decide +kernel
theorem dX8_kind_0 : decode cX8_kind 0 = .ok (.aload_n 0, 1) := by decide +kernel
theorem dX8_kind_1 : decode cX8_kind 1 = .ok (.getfield 10, 3) := by decide +kernel
theorem dX8_kind_4 : decode cX8_kind 4 = .ok (.iload_n 1, 1) := by decide +kernel
theorem dX8_kind_5 : decode cX8_kind 5 = .ok (.invokevirtual 25, 3) := by decide +kernel
theorem dX8_kind_8 : decode cX8_kind 8 = .ok (.astore_n 2, 1) := by decide +kernel
theorem dX8_kind_9 : decode cX8_kind 9 = .ok (.iload_n 1, 1) := by decide +kernel
theorem dX8_kind_10 : decode cX8_kind 10 = .ok (.iconst (-1), 1) := by decide +kernel
theorem dX8_kind_11 : decode cX8_kind 11 = .ok (.if_icmp .eq 9, 3) := by decide +kernel
theorem dX8_kind_14 : decode cX8_kind 14 = .ok (.aload_n 2, 1) := by decide +kernel
theorem dX8_kind_15 : decode cX8_kind 15 = .ok (.ifnonnull 5, 3) := by decide +kernel
theorem dX8_kind_18 : decode cX8_kind 18 = .ok (.iconst (-1), 1) := by decide +kernel
theorem dX8_kind_19 : decode cX8_kind 19 = .ok (.ireturn, 1) := by decide +kernel
theorem dX8_kind_20 : decode cX8_kind 20 = .ok (.aload_n 0, 1) := by decide +kernel
theorem dX8_kind_21 : decode cX8_kind 21 = .ok (.getfield 10, 3) := by decide +kernel
theorem dX8_kind_24 : decode cX8_kind 24 = .ok (.aload_n 2, 1) := by decide +kernel
theorem dX8_kind_25 : decode cX8_kind 25 = .ok (.invokevirtual 29, 3) := by decide +kernel
theorem dX8_kind_28 : decode cX8_kind 28 = .ok (.ireturn, 1) := by decide +kernel
theorem dX8_field_0 : decode cX8_field 0 = .ok (.aload_n 0, 1) := by decide +kernel
theorem dX8_field_1 : decode cX8_field 1 = .ok (.getfield 10, 3) := by decide +kernel
theorem dX8_field_4 : decode cX8_field 4 = .ok (.iload_n 1, 1) := by decide +kernel
theorem dX8_field_5 : decode cX8_field 5 = .ok (.invokevirtual 25, 3) := by decide +kernel
theorem dX8_field_8 : decode cX8_field 8 = .ok (.astore_n 3, 1) := by decide +kernel
theorem dX8_field_9 : decode cX8_field 9 = .ok (.aload_n 3, 1) := by decide +kernel
theorem dX8_field_10 : decode cX8_field 10 = .ok (.ifnull 28, 3) := by decide +kernel
theorem dX8_field_13 : decode cX8_field 13 = .ok (.aload_n 0, 1) := by decide +kernel
theorem dX8_field_14 : decode cX8_field 14 = .ok (.getfield 10, 3) := by decide +kernel
theorem dX8_field_17 : decode cX8_field 17 = .ok (.iload_n 2, 1) := by decide +kernel
theorem dX8_field_18 : decode cX8_field 18 = .ok (.invokevirtual 33, 3) := by decide +kernel
theorem dX8_field_21 : decode cX8_field 21 = .ok (.ifCond .eq 17, 3) := by decide +kernel
theorem dX8_field_24 : decode cX8_field 24 = .ok (.aload_n 3, 1) := by decide +kernel
theorem dX8_field_25 : decode cX8_field 25 = .ok (.getfield 37, 3) := by decide +kernel
theorem dX8_field_28 : decode cX8_field 28 = .ok (.ifCond .ne 10, 3) := by decide +kernel
theorem dX8_field_31 : decode cX8_field 31 = .ok (.aload_n 3, 1) := by decide +kernel
theorem dX8_field_32 : decode cX8_field 32 = .ok (.getfield 43, 3) := by decide +kernel
theorem dX8_field_35 : decode cX8_field 35 = .ok (.ifCond .eq 5, 3) := by decide +kernel
theorem dX8_field_38 : decode cX8_field 38 = .ok (.iconst (-1), 1) := by decide +kernel
theorem dX8_field_39 : decode cX8_field 39 = .ok (.ireturn, 1) := by decide +kernel
theorem dX8_field_40 : decode cX8_field 40 = .ok (.aload_n 3, 1) := by decide +kernel
theorem dX8_field_41 : decode cX8_field 41 = .ok (.iload_n 2, 1) := by decide +kernel
theorem dX8_field_42 : decode cX8_field 42 = .ok (.invokevirtual 46, 3) := by decide +kernel
theorem dX8_field_45 : decode cX8_field 45 = .ok (.ireturn, 1) := by decide +kernel
theorem dX8_method_0 : decode cX8_method 0 = .ok (.aload_n 0, 1) := by decide +kernel
theorem dX8_method_1 : decode cX8_method 1 = .ok (.getfield 10, 3) := by decide +kernel
theorem dX8_method_4 : decode cX8_method 4 = .ok (.iload_n 1, 1) := by decide +kernel
theorem dX8_method_5 : decode cX8_method 5 = .ok (.invokevirtual 25, 3) := by decide +kernel
theorem dX8_method_8 : decode cX8_method 8 = .ok (.astore 5, 2) := by decide +kernel
theorem dX8_method_10 : decode cX8_method 10 = .ok (.iload_n 1, 1) := by decide +kernel
theorem dX8_method_11 : decode cX8_method 11 = .ok (.iconst (-1), 1) := by decide +kernel
theorem dX8_method_12 : decode cX8_method 12 = .ok (.if_icmp .eq 10, 3) := by decide +kernel
theorem dX8_method_15 : decode cX8_method 15 = .ok (.aload 5, 2) := by decide +kernel
theorem dX8_method_17 : decode cX8_method 17 = .ok (.ifnonnull 5, 3) := by decide +kernel
theorem dX8_method_20 : decode cX8_method 20 = .ok (.iconst (-1), 1) := by decide +kernel
theorem dX8_method_21 : decode cX8_method 21 = .ok (.ireturn, 1) := by decide +kernel
theorem dX8_method_22 : decode cX8_method 22 = .ok (.iload_n 2, 1) := by decide +kernel
theorem dX8_method_23 : decode cX8_method 23 = .ok (.iconst (-1), 1) := by decide +kernel
theorem dX8_method_24 : decode cX8_method 24 = .ok (.if_icmp .eq 16, 3) := by decide +kernel
theorem dX8_method_27 : decode cX8_method 27 = .ok (.aload_n 0, 1) := by decide +kernel
theorem dX8_method_28 : decode cX8_method 28 = .ok (.getfield 10, 3) := by decide +kernel
theorem dX8_method_31 : decode cX8_method 31 = .ok (.iload_n 2, 1) := by decide +kernel
theorem dX8_method_32 : decode cX8_method 32 = .ok (.invokevirtual 33, 3) := by decide +kernel
theorem dX8_method_35 : decode cX8_method 35 = .ok (.ifCond .ne 5, 3) := by decide +kernel
theorem dX8_method_38 : decode cX8_method 38 = .ok (.iconst (-1), 1) := by decide +kernel
theorem dX8_method_39 : decode cX8_method 39 = .ok (.ireturn, 1) := by decide +kernel
theorem dX8_method_40 : decode cX8_method 40 = .ok (.iload_n 3, 1) := by decide +kernel
theorem dX8_method_41 : decode cX8_method 41 = .ok (.iload 4, 2) := by decide +kernel
theorem dX8_method_43 : decode cX8_method 43 = .ok (.invokestatic 50, 3) := by decide +kernel
theorem dX8_method_46 : decode cX8_method 46 = .ok (.ifCond .eq 12, 3) := by decide +kernel
theorem dX8_method_49 : decode cX8_method 49 = .ok (.aload 5, 2) := by decide +kernel
theorem dX8_method_51 : decode cX8_method 51 = .ok (.ifnull 9, 3) := by decide +kernel
theorem dX8_method_54 : decode cX8_method 54 = .ok (.iload_n 3, 1) := by decide +kernel
theorem dX8_method_55 : decode cX8_method 55 = .ok (.ifCond .ne 5, 3) := by decide +kernel
theorem dX8_method_58 : decode cX8_method 58 = .ok (.iconst (-1), 1) := by decide +kernel
theorem dX8_method_59 : decode cX8_method 59 = .ok (.ireturn, 1) := by decide +kernel
theorem dX8_method_60 : decode cX8_method 60 = .ok (.aload_n 0, 1) := by decide +kernel
theorem dX8_method_61 : decode cX8_method 61 = .ok (.getfield 10, 3) := by decide +kernel
theorem dX8_method_64 : decode cX8_method 64 = .ok (.aload 5, 2) := by decide +kernel
theorem dX8_method_66 : decode cX8_method 66 = .ok (.iload_n 2, 1) := by decide +kernel
theorem dX8_method_67 : decode cX8_method 67 = .ok (.iload_n 3, 1) := by decide +kernel
theorem dX8_method_68 : decode cX8_method 68 = .ok (.iload 4, 2) := by decide +kernel
theorem dX8_method_70 : decode cX8_method 70 = .ok (.invokevirtual 54, 3) := by decide +kernel
theorem dX8_method_73 : decode cX8_method 73 = .ok (.ireturn, 1) := by decide +kernel
theorem dX8_parameter_0 : decode cX8_parameter 0 = .ok (.aload_n 0, 1) := by decide +kernel
theorem dX8_parameter_1 : decode cX8_parameter 1 = .ok (.getfield 10, 3) := by decide +kernel
theorem dX8_parameter_4 : decode cX8_parameter 4 = .ok (.iload_n 1, 1) := by decide +kernel
theorem dX8_parameter_5 : decode cX8_parameter 5 = .ok (.invokevirtual 58, 3) := by decide +kernel
theorem dX8_parameter_8 : decode cX8_parameter 8 = .ok (.astore_n 3, 1) := by decide +kernel
theorem dX8_parameter_9 : decode cX8_parameter 9 = .ok (.aload_n 3, 1) := by decide +kernel
theorem dX8_parameter_10 : decode cX8_parameter 10 = .ok (.ifnull 21, 3) := by decide +kernel
theorem dX8_parameter_13 : decode cX8_parameter 13 = .ok (.aload_n 0, 1) := by decide +kernel
theorem dX8_parameter_14 : decode cX8_parameter 14 = .ok (.getfield 10, 3) := by decide +kernel
theorem dX8_parameter_17 : decode cX8_parameter 17 = .ok (.iload_n 2, 1) := by decide +kernel
theorem dX8_parameter_18 : decode cX8_parameter 18 = .ok (.invokevirtual 33, 3) := by decide +kernel
theorem dX8_parameter_21 : decode cX8_parameter 21 = .ok (.ifCond .eq 10, 3) := by decide +kernel
theorem dX8_parameter_24 : decode cX8_parameter 24 = .ok (.aload_n 3, 1) := by decide +kernel
theorem dX8_parameter_25 : decode cX8_parameter 25 = .ok (.invokevirtual 62, 3) := by decide +kernel
theorem dX8_parameter_28 : decode cX8_parameter 28 = .ok (.ifCond .ne 5, 3) := by decide +kernel
theorem dX8_parameter_31 : decode cX8_parameter 31 = .ok (.iconst (-1), 1) := by decide +kernel
theorem dX8_parameter_32 : decode cX8_parameter 32 = .ok (.ireturn, 1) := by decide +kernel
theorem dX8_parameter_33 : decode cX8_parameter 33 = .ok (.aload_n 3, 1) := by decide +kernel
theorem dX8_parameter_34 : decode cX8_parameter 34 = .ok (.iload_n 2, 1) := by decide +kernel
theorem dX8_parameter_35 : decode cX8_parameter 35 = .ok (.invokevirtual 68, 3) := by decide +kernel
theorem dX8_parameter_38 : decode cX8_parameter 38 = .ok (.ireturn, 1) := by decide +kernel
theorem dX8_slot_0 : decode cX8_slot 0 = .ok (.aload_n 0, 1) := by decide +kernel
theorem dX8_slot_1 : decode cX8_slot 1 = .ok (.getfield 10, 3) := by decide +kernel
theorem dX8_slot_4 : decode cX8_slot 4 = .ok (.iload_n 1, 1) := by decide +kernel
theorem dX8_slot_5 : decode cX8_slot 5 = .ok (.invokevirtual 58, 3) := by decide +kernel
theorem dX8_slot_8 : decode cX8_slot 8 = .ok (.astore_n 3, 1) := by decide +kernel
theorem dX8_slot_9 : decode cX8_slot 9 = .ok (.aload_n 3, 1) := by decide +kernel
theorem dX8_slot_10 : decode cX8_slot 10 = .ok (.ifnull 13, 3) := by decide +kernel
theorem dX8_slot_13 : decode cX8_slot 13 = .ok (.iload_n 2, 1) := by decide +kernel
theorem dX8_slot_14 : decode cX8_slot 14 = .ok (.ifCond .lt 9, 3) := by decide +kernel
theorem dX8_slot_17 : decode cX8_slot 17 = .ok (.iload_n 2, 1) := by decide +kernel
theorem dX8_slot_18 : decode cX8_slot 18 = .ok (.bipush 16, 2) := by decide +kernel
theorem dX8_slot_20 : decode cX8_slot 20 = .ok (.if_icmp .lt 5, 3) := by decide +kernel
theorem dX8_slot_23 : decode cX8_slot 23 = .ok (.iconst 0, 1) := by decide +kernel
theorem dX8_slot_24 : decode cX8_slot 24 = .ok (.ireturn, 1) := by decide +kernel
theorem dX8_slot_25 : decode cX8_slot 25 = .ok (.aload_n 3, 1) := by decide +kernel
theorem dX8_slot_26 : decode cX8_slot 26 = .ok (.getfield 71, 3) := by decide +kernel
theorem dX8_slot_29 : decode cX8_slot 29 = .ok (.astore 4, 2) := by decide +kernel
theorem dX8_slot_31 : decode cX8_slot 31 = .ok (.aload 4, 2) := by decide +kernel
theorem dX8_slot_33 : decode cX8_slot 33 = .ok (.ifnull 11, 3) := by decide +kernel
theorem dX8_slot_36 : decode cX8_slot 36 = .ok (.aload 4, 2) := by decide +kernel
theorem dX8_slot_38 : decode cX8_slot 38 = .ok (.getfield 37, 3) := by decide +kernel
theorem dX8_slot_41 : decode cX8_slot 41 = .ok (.ifCond .eq 5, 3) := by decide +kernel
theorem dX8_slot_44 : decode cX8_slot 44 = .ok (.iconst 0, 1) := by decide +kernel
theorem dX8_slot_45 : decode cX8_slot 45 = .ok (.ireturn, 1) := by decide +kernel
theorem dX8_slot_46 : decode cX8_slot 46 = .ok (.aload_n 0, 1) := by decide +kernel
theorem dX8_slot_47 : decode cX8_slot 47 = .ok (.getfield 10, 3) := by decide +kernel
theorem dX8_slot_50 : decode cX8_slot 50 = .ok (.aload 4, 2) := by decide +kernel
theorem dX8_slot_52 : decode cX8_slot 52 = .ok (.iload_n 2, 1) := by decide +kernel
theorem dX8_slot_53 : decode cX8_slot 53 = .ok (.invokevirtual 75, 3) := by decide +kernel
theorem dX8_slot_56 : decode cX8_slot 56 = .ok (.invokevirtual 58, 3) := by decide +kernel
theorem dX8_slot_59 : decode cX8_slot 59 = .ok (.astore 5, 2) := by decide +kernel
theorem dX8_slot_61 : decode cX8_slot 61 = .ok (.aload 5, 2) := by decide +kernel
theorem dX8_slot_63 : decode cX8_slot 63 = .ok (.ifnull 14, 3) := by decide +kernel
theorem dX8_slot_66 : decode cX8_slot 66 = .ok (.aload 5, 2) := by decide +kernel
theorem dX8_slot_68 : decode cX8_slot 68 = .ok (.aload_n 3, 1) := by decide +kernel
theorem dX8_slot_69 : decode cX8_slot 69 = .ok (.invokevirtual 78, 3) := by decide +kernel
theorem dX8_slot_72 : decode cX8_slot 72 = .ok (.ifCond .ne 5, 3) := by decide +kernel
theorem dX8_slot_75 : decode cX8_slot 75 = .ok (.iconst 0, 1) := by decide +kernel
theorem dX8_slot_76 : decode cX8_slot 76 = .ok (.ireturn, 1) := by decide +kernel
theorem dX8_slot_77 : decode cX8_slot 77 = .ok (.aload 4, 2) := by decide +kernel
theorem dX8_slot_79 : decode cX8_slot 79 = .ok (.getfield 82, 3) := by decide +kernel
theorem dX8_slot_82 : decode cX8_slot 82 = .ok (.iload_n 2, 1) := by decide +kernel
theorem dX8_slot_83 : decode cX8_slot 83 = .ok (.iload_n 1, 1) := by decide +kernel
theorem dX8_slot_84 : decode cX8_slot 84 = .ok (.iastore, 1) := by decide +kernel
theorem dX8_slot_85 : decode cX8_slot 85 = .ok (.aload_n 3, 1) := by decide +kernel
theorem dX8_slot_86 : decode cX8_slot 86 = .ok (.iconst 1, 1) := by decide +kernel
theorem dX8_slot_87 : decode cX8_slot 87 = .ok (.putfield 86, 3) := by decide +kernel
theorem dX8_slot_90 : decode cX8_slot 90 = .ok (.iconst 1, 1) := by decide +kernel
theorem dX8_slot_91 : decode cX8_slot 91 = .ok (.ireturn, 1) := by decide +kernel
theorem dX8_op_0 : decode cX8_op 0 = .ok (.aload_n 0, 1) := by decide +kernel
theorem dX8_op_1 : decode cX8_op 1 = .ok (.getfield 10, 3) := by decide +kernel
theorem dX8_op_4 : decode cX8_op 4 = .ok (.iload_n 1, 1) := by decide +kernel
theorem dX8_op_5 : decode cX8_op 5 = .ok (.invokevirtual 58, 3) := by decide +kernel
theorem dX8_op_8 : decode cX8_op 8 = .ok (.astore 5, 2) := by decide +kernel
theorem dX8_op_10 : decode cX8_op 10 = .ok (.aload 5, 2) := by decide +kernel
theorem dX8_op_12 : decode cX8_op 12 = .ok (.ifnull 19, 3) := by decide +kernel
theorem dX8_op_15 : decode cX8_op 15 = .ok (.aload_n 0, 1) := by decide +kernel
theorem dX8_op_16 : decode cX8_op 16 = .ok (.getfield 10, 3) := by decide +kernel
theorem dX8_op_19 : decode cX8_op 19 = .ok (.aload 5, 2) := by decide +kernel
theorem dX8_op_21 : decode cX8_op 21 = .ok (.iload_n 2, 1) := by decide +kernel
theorem dX8_op_22 : decode cX8_op 22 = .ok (.iload_n 3, 1) := by decide +kernel
theorem dX8_op_23 : decode cX8_op 23 = .ok (.iload 4, 2) := by decide +kernel
theorem dX8_op_25 : decode cX8_op 25 = .ok (.invokevirtual 89, 3) := by decide +kernel
theorem dX8_op_28 : decode cX8_op 28 = .ok (.ifCond .ne 5, 3) := by decide +kernel
theorem dX8_op_31 : decode cX8_op 31 = .ok (.iconst (-1), 1) := by decide +kernel
theorem dX8_op_32 : decode cX8_op 32 = .ok (.ireturn, 1) := by decide +kernel
theorem dX8_op_33 : decode cX8_op 33 = .ok (.aload 5, 2) := by decide +kernel
theorem dX8_op_35 : decode cX8_op 35 = .ok (.iload_n 2, 1) := by decide +kernel
theorem dX8_op_36 : decode cX8_op 36 = .ok (.iload_n 3, 1) := by decide +kernel
theorem dX8_op_37 : decode cX8_op 37 = .ok (.iload 4, 2) := by decide +kernel
theorem dX8_op_39 : decode cX8_op 39 = .ok (.invokevirtual 93, 3) := by decide +kernel
theorem dX8_op_42 : decode cX8_op 42 = .ok (.ireturn, 1) := by decide +kernel
theorem dX8_handler_0 : decode cX8_handler 0 = .ok (.aload_n 0, 1) := by decide +kernel
theorem dX8_handler_1 : decode cX8_handler 1 = .ok (.getfield 10, 3) := by decide +kernel
theorem dX8_handler_4 : decode cX8_handler 4 = .ok (.iload_n 1, 1) := by decide +kernel
theorem dX8_handler_5 : decode cX8_handler 5 = .ok (.invokevirtual 58, 3) := by decide +kernel
theorem dX8_handler_8 : decode cX8_handler 8 = .ok (.astore 6, 2) := by decide +kernel
theorem dX8_handler_10 : decode cX8_handler 10 = .ok (.aload 6, 2) := by decide +kernel
theorem dX8_handler_12 : decode cX8_handler 12 = .ok (.ifnull 23, 3) := by decide +kernel
theorem dX8_handler_15 : decode cX8_handler 15 = .ok (.aload_n 0, 1) := by decide +kernel
theorem dX8_handler_16 : decode cX8_handler 16 = .ok (.getfield 10, 3) := by decide +kernel
theorem dX8_handler_19 : decode cX8_handler 19 = .ok (.iload 4, 2) := by decide +kernel
theorem dX8_handler_21 : decode cX8_handler 21 = .ok (.invokevirtual 25, 3) := by decide +kernel
theorem dX8_handler_24 : decode cX8_handler 24 = .ok (.ifnull 11, 3) := by decide +kernel
theorem dX8_handler_27 : decode cX8_handler 27 = .ok (.iload 5, 2) := by decide +kernel
theorem dX8_handler_29 : decode cX8_handler 29 = .ok (.invokestatic 97, 3) := by decide +kernel
theorem dX8_handler_32 : decode cX8_handler 32 = .ok (.ifCond .ne 5, 3) := by decide +kernel
theorem dX8_handler_35 : decode cX8_handler 35 = .ok (.iconst (-1), 1) := by decide +kernel
theorem dX8_handler_36 : decode cX8_handler 36 = .ok (.ireturn, 1) := by decide +kernel
theorem dX8_handler_37 : decode cX8_handler 37 = .ok (.iload_n 2, 1) := by decide +kernel
theorem dX8_handler_38 : decode cX8_handler 38 = .ok (.ifCond .lt 15, 3) := by decide +kernel
theorem dX8_handler_41 : decode cX8_handler 41 = .ok (.iload_n 2, 1) := by decide +kernel
theorem dX8_handler_42 : decode cX8_handler 42 = .ok (.iload_n 3, 1) := by decide +kernel
theorem dX8_handler_43 : decode cX8_handler 43 = .ok (.if_icmp .ge 10, 3) := by decide +kernel
theorem dX8_handler_46 : decode cX8_handler 46 = .ok (.iload_n 3, 1) := by decide +kernel
theorem dX8_handler_47 : decode cX8_handler 47 = .ok (.sipush 200, 3) := by decide +kernel
theorem dX8_handler_50 : decode cX8_handler 50 = .ok (.if_icmp .le 5, 3) := by decide +kernel
theorem dX8_handler_53 : decode cX8_handler 53 = .ok (.iconst (-1), 1) := by decide +kernel
theorem dX8_handler_54 : decode cX8_handler 54 = .ok (.ireturn, 1) := by decide +kernel
theorem dX8_handler_55 : decode cX8_handler 55 = .ok (.aload 6, 2) := by decide +kernel
theorem dX8_handler_57 : decode cX8_handler 57 = .ok (.iload_n 2, 1) := by decide +kernel
theorem dX8_handler_58 : decode cX8_handler 58 = .ok (.iload_n 3, 1) := by decide +kernel
theorem dX8_handler_59 : decode cX8_handler 59 = .ok (.iload 4, 2) := by decide +kernel
theorem dX8_handler_61 : decode cX8_handler 61 = .ok (.iload 5, 2) := by decide +kernel
theorem dX8_handler_63 : decode cX8_handler 63 = .ok (.invokevirtual 100, 3) := by decide +kernel
theorem dX8_handler_66 : decode cX8_handler 66 = .ok (.ireturn, 1) := by decide +kernel
theorem dX8_verify_0 : decode cX8_verify 0 = .ok (.aload_n 0, 1) := by decide +kernel
theorem dX8_verify_1 : decode cX8_verify 1 = .ok (.getfield 10, 3) := by decide +kernel
theorem dX8_verify_4 : decode cX8_verify 4 = .ok (.iload_n 1, 1) := by decide +kernel
theorem dX8_verify_5 : decode cX8_verify 5 = .ok (.invokevirtual 58, 3) := by decide +kernel
theorem dX8_verify_8 : decode cX8_verify 8 = .ok (.astore_n 2, 1) := by decide +kernel
theorem dX8_verify_9 : decode cX8_verify 9 = .ok (.aload_n 2, 1) := by decide +kernel
theorem dX8_verify_10 : decode cX8_verify 10 = .ok (.ifnonnull 5, 3) := by decide +kernel
theorem dX8_verify_13 : decode cX8_verify 13 = .ok (.iconst (-1), 1) := by decide +kernel
theorem dX8_verify_14 : decode cX8_verify 14 = .ok (.ireturn, 1) := by decide +kernel
theorem dX8_verify_15 : decode cX8_verify 15 = .ok (.aload_n 0, 1) := by decide +kernel
theorem dX8_verify_16 : decode cX8_verify 16 = .ok (.getfield 21, 3) := by decide +kernel
theorem dX8_verify_19 : decode cX8_verify 19 = .ok (.aload_n 2, 1) := by decide +kernel
theorem dX8_verify_20 : decode cX8_verify 20 = .ok (.invokevirtual 104, 3) := by decide +kernel
theorem dX8_verify_23 : decode cX8_verify 23 = .ok (.istore_n 3, 1) := by decide +kernel
theorem dX8_verify_24 : decode cX8_verify 24 = .ok (.iload_n 3, 1) := by decide +kernel
theorem dX8_verify_25 : decode cX8_verify 25 = .ok (.iconst (-1), 1) := by decide +kernel
theorem dX8_verify_26 : decode cX8_verify 26 = .ok (.if_icmp .ne 7, 3) := by decide +kernel
theorem dX8_verify_29 : decode cX8_verify 29 = .ok (.iconst 0, 1) := by decide +kernel
theorem dX8_verify_30 : decode cX8_verify 30 = .ok (.goto 6, 3) := by decide +kernel
theorem dX8_verify_33 : decode cX8_verify 33 = .ok (.iload_n 3, 1) := by decide +kernel
theorem dX8_verify_34 : decode cX8_verify 34 = .ok (.iconst 1, 1) := by decide +kernel
theorem dX8_verify_35 : decode cX8_verify 35 = .ok (.iadd, 1) := by decide +kernel
theorem dX8_verify_36 : decode cX8_verify 36 = .ok (.ireturn, 1) := by decide +kernel
theorem dX8_stands_0 : decode cX8_stands 0 = .ok (.aload_n 0, 1) := by decide +kernel
theorem dX8_stands_1 : decode cX8_stands 1 = .ok (.getfield 10, 3) := by decide +kernel
theorem dX8_stands_4 : decode cX8_stands 4 = .ok (.iload_n 1, 1) := by decide +kernel
theorem dX8_stands_5 : decode cX8_stands 5 = .ok (.invokevirtual 58, 3) := by decide +kernel
theorem dX8_stands_8 : decode cX8_stands 8 = .ok (.astore 5, 2) := by decide +kernel
theorem dX8_stands_10 : decode cX8_stands 10 = .ok (.aload 5, 2) := by decide +kernel
theorem dX8_stands_12 : decode cX8_stands 12 = .ok (.ifnull 11, 3) := by decide +kernel
theorem dX8_stands_15 : decode cX8_stands 15 = .ok (.aload 5, 2) := by decide +kernel
theorem dX8_stands_17 : decode cX8_stands 17 = .ok (.getfield 108, 3) := by decide +kernel
theorem dX8_stands_20 : decode cX8_stands 20 = .ok (.ifCond .ne 5, 3) := by decide +kernel
theorem dX8_stands_23 : decode cX8_stands 23 = .ok (.iconst (-1), 1) := by decide +kernel
theorem dX8_stands_24 : decode cX8_stands 24 = .ok (.ireturn, 1) := by decide +kernel
theorem dX8_stands_25 : decode cX8_stands 25 = .ok (.aload 5, 2) := by decide +kernel
theorem dX8_stands_27 : decode cX8_stands 27 = .ok (.iload_n 2, 1) := by decide +kernel
theorem dX8_stands_28 : decode cX8_stands 28 = .ok (.invokevirtual 111, 3) := by decide +kernel
theorem dX8_stands_31 : decode cX8_stands 31 = .ok (.astore 6, 2) := by decide +kernel
theorem dX8_stands_33 : decode cX8_stands 33 = .ok (.aload 6, 2) := by decide +kernel
theorem dX8_stands_35 : decode cX8_stands 35 = .ok (.ifnull 11, 3) := by decide +kernel
theorem dX8_stands_38 : decode cX8_stands 38 = .ok (.aload 6, 2) := by decide +kernel
theorem dX8_stands_40 : decode cX8_stands 40 = .ok (.getfield 115, 3) := by decide +kernel
theorem dX8_stands_43 : decode cX8_stands 43 = .ok (.ifCond .ne 5, 3) := by decide +kernel
theorem dX8_stands_46 : decode cX8_stands 46 = .ok (.iconst (-1), 1) := by decide +kernel
theorem dX8_stands_47 : decode cX8_stands 47 = .ok (.ireturn, 1) := by decide +kernel
theorem dX8_stands_48 : decode cX8_stands 48 = .ok (.iload_n 3, 1) := by decide +kernel
theorem dX8_stands_49 : decode cX8_stands 49 = .ok (.tableswitch 58 0 2 #[27, 36, 47], 27) := by decide +kernel
theorem dX8_stands_76 : decode cX8_stands 76 = .ok (.aload 6, 2) := by decide +kernel
theorem dX8_stands_78 : decode cX8_stands 78 = .ok (.getfield 120, 3) := by decide +kernel
theorem dX8_stands_81 : decode cX8_stands 81 = .ok (.getfield 124, 3) := by decide +kernel
theorem dX8_stands_84 : decode cX8_stands 84 = .ok (.ireturn, 1) := by decide +kernel
theorem dX8_stands_85 : decode cX8_stands 85 = .ok (.aload 6, 2) := by decide +kernel
theorem dX8_stands_87 : decode cX8_stands 87 = .ok (.getfield 120, 3) := by decide +kernel
theorem dX8_stands_90 : decode cX8_stands 90 = .ok (.iload 4, 2) := by decide +kernel
theorem dX8_stands_92 : decode cX8_stands 92 = .ok (.invokevirtual 130, 3) := by decide +kernel
theorem dX8_stands_95 : decode cX8_stands 95 = .ok (.ireturn, 1) := by decide +kernel
theorem dX8_stands_96 : decode cX8_stands 96 = .ok (.aload 6, 2) := by decide +kernel
theorem dX8_stands_98 : decode cX8_stands 98 = .ok (.getfield 120, 3) := by decide +kernel
theorem dX8_stands_101 : decode cX8_stands 101 = .ok (.iload 4, 2) := by decide +kernel
theorem dX8_stands_103 : decode cX8_stands 103 = .ok (.invokevirtual 133, 3) := by decide +kernel
theorem dX8_stands_106 : decode cX8_stands 106 = .ok (.ireturn, 1) := by decide +kernel
theorem dX8_stands_107 : decode cX8_stands 107 = .ok (.iconst (-1), 1) := by decide +kernel
theorem dX8_stands_108 : decode cX8_stands 108 = .ok (.ireturn, 1) := by decide +kernel
theorem dX8_looked_0 : decode cX8_looked 0 = .ok (.aload_n 0, 1) := by decide +kernel
theorem dX8_looked_1 : decode cX8_looked 1 = .ok (.getfield 21, 3) := by decide +kernel
theorem dX8_looked_4 : decode cX8_looked 4 = .ok (.getfield 136, 3) := by decide +kernel
theorem dX8_looked_7 : decode cX8_looked 7 = .ok (.ireturn, 1) := by decide +kernel
theorem dX8_isRoom_0 : decode cX8_isRoom 0 = .ok (.iload_n 0, 1) := by decide +kernel
theorem dX8_isRoom_1 : decode cX8_isRoom 1 = .ok (.ifCond .lt 31, 3) := by decide +kernel
theorem dX8_isRoom_4 : decode cX8_isRoom 4 = .ok (.iload_n 0, 1) := by decide +kernel
theorem dX8_isRoom_5 : decode cX8_isRoom 5 = .ok (.bipush 12, 2) := by decide +kernel
theorem dX8_isRoom_7 : decode cX8_isRoom 7 = .ok (.if_icmp .gt 25, 3) := by decide +kernel
theorem dX8_isRoom_10 : decode cX8_isRoom 10 = .ok (.iload_n 1, 1) := by decide +kernel
theorem dX8_isRoom_11 : decode cX8_isRoom 11 = .ok (.ifCond .lt 21, 3) := by decide +kernel
theorem dX8_isRoom_14 : decode cX8_isRoom 14 = .ok (.iload_n 1, 1) := by decide +kernel
theorem dX8_isRoom_15 : decode cX8_isRoom 15 = .ok (.bipush 12, 2) := by decide +kernel
theorem dX8_isRoom_17 : decode cX8_isRoom 17 = .ok (.if_icmp .gt 15, 3) := by decide +kernel
theorem dX8_isRoom_20 : decode cX8_isRoom 20 = .ok (.iload_n 0, 1) := by decide +kernel
theorem dX8_isRoom_21 : decode cX8_isRoom 21 = .ok (.iload_n 1, 1) := by decide +kernel
theorem dX8_isRoom_22 : decode cX8_isRoom 22 = .ok (.iadd, 1) := by decide +kernel
theorem dX8_isRoom_23 : decode cX8_isRoom 23 = .ok (.bipush 12, 2) := by decide +kernel
theorem dX8_isRoom_25 : decode cX8_isRoom 25 = .ok (.if_icmp .gt 7, 3) := by decide +kernel
theorem dX8_isRoom_28 : decode cX8_isRoom 28 = .ok (.iconst 1, 1) := by decide +kernel
theorem dX8_isRoom_29 : decode cX8_isRoom 29 = .ok (.goto 4, 3) := by decide +kernel
theorem dX8_isRoom_32 : decode cX8_isRoom 32 = .ok (.iconst 0, 1) := by decide +kernel
theorem dX8_isRoom_33 : decode cX8_isRoom 33 = .ok (.ireturn, 1) := by decide +kernel
theorem dX8_isPlace_0 : decode cX8_isPlace 0 = .ok (.iload_n 0, 1) := by decide +kernel
theorem dX8_isPlace_1 : decode cX8_isPlace 1 = .ok (.ifCond .lt 14, 3) := by decide +kernel
theorem dX8_isPlace_4 : decode cX8_isPlace 4 = .ok (.iload_n 0, 1) := by decide +kernel
theorem dX8_isPlace_5 : decode cX8_isPlace 5 = .ok (.sipush 200, 3) := by decide +kernel
theorem dX8_isPlace_8 : decode cX8_isPlace 8 = .ok (.if_icmp .ge 7, 3) := by decide +kernel
theorem dX8_isPlace_11 : decode cX8_isPlace 11 = .ok (.iconst 1, 1) := by decide +kernel
theorem dX8_isPlace_12 : decode cX8_isPlace 12 = .ok (.goto 4, 3) := by decide +kernel
theorem dX8_isPlace_15 : decode cX8_isPlace 15 = .ok (.iconst 0, 1) := by decide +kernel
theorem dX8_isPlace_16 : decode cX8_isPlace 16 = .ok (.ireturn, 1) := by decide +kernel
theorem dX8_isKindType_0 : decode cX8_isKindType 0 = .ok (.iload_n 0, 1) := by decide +kernel
theorem dX8_isKindType_1 : decode cX8_isKindType 1 = .ok (.iconst 1, 1) := by decide +kernel
theorem dX8_isKindType_2 : decode cX8_isKindType 2 = .ok (.if_icmp .lt 13, 3) := by decide +kernel
theorem dX8_isKindType_5 : decode cX8_isKindType 5 = .ok (.iload_n 0, 1) := by decide +kernel
theorem dX8_isKindType_6 : decode cX8_isKindType 6 = .ok (.bipush 33, 2) := by decide +kernel
theorem dX8_isKindType_8 : decode cX8_isKindType 8 = .ok (.if_icmp .ge 7, 3) := by decide +kernel
theorem dX8_isKindType_11 : decode cX8_isKindType 11 = .ok (.iconst 1, 1) := by decide +kernel
theorem dX8_isKindType_12 : decode cX8_isKindType 12 = .ok (.goto 4, 3) := by decide +kernel
theorem dX8_isKindType_15 : decode cX8_isKindType 15 = .ok (.iconst 0, 1) := by decide +kernel
theorem dX8_isKindType_16 : decode cX8_isKindType 16 = .ok (.ireturn, 1) := by decide +kernel
theorem dX8_isRowType_0 : decode cX8_isRowType 0 = .ok (.iload_n 0, 1) := by decide +kernel
theorem dX8_isRowType_1 : decode cX8_isRowType 1 = .ok (.bipush 64, 2) := by decide +kernel
theorem dX8_isRowType_3 : decode cX8_isRowType 3 = .ok (.if_icmp .lt 13, 3) := by decide +kernel
theorem dX8_isRowType_6 : decode cX8_isRowType 6 = .ok (.iload_n 0, 1) := by decide +kernel
theorem dX8_isRowType_7 : decode cX8_isRowType 7 = .ok (.bipush 96, 2) := by decide +kernel
theorem dX8_isRowType_9 : decode cX8_isRowType 9 = .ok (.if_icmp .gt 7, 3) := by decide +kernel
theorem dX8_isRowType_12 : decode cX8_isRowType 12 = .ok (.iconst 1, 1) := by decide +kernel
theorem dX8_isRowType_13 : decode cX8_isRowType 13 = .ok (.goto 4, 3) := by decide +kernel
theorem dX8_isRowType_16 : decode cX8_isRowType 16 = .ok (.iconst 0, 1) := by decide +kernel
theorem dX8_isRowType_17 : decode cX8_isRowType 17 = .ok (.ireturn, 1) := by decide +kernel
theorem dX8_isReference_0 : decode cX8_isReference 0 = .ok (.iload_n 0, 1) := by decide +kernel
theorem dX8_isReference_1 : decode cX8_isReference 1 = .ok (.ifCond .le 13, 3) := by decide +kernel
theorem dX8_isReference_4 : decode cX8_isReference 4 = .ok (.iload_n 0, 1) := by decide +kernel
theorem dX8_isReference_5 : decode cX8_isReference 5 = .ok (.bipush 99, 2) := by decide +kernel
theorem dX8_isReference_7 : decode cX8_isReference 7 = .ok (.if_icmp .ge 7, 3) := by decide +kernel
theorem dX8_isReference_10 : decode cX8_isReference 10 = .ok (.iconst 1, 1) := by decide +kernel
theorem dX8_isReference_11 : decode cX8_isReference 11 = .ok (.goto 4, 3) := by decide +kernel
theorem dX8_isReference_14 : decode cX8_isReference 14 = .ok (.iconst 0, 1) := by decide +kernel
theorem dX8_isReference_15 : decode cX8_isReference 15 = .ok (.ireturn, 1) := by decide +kernel
theorem dX8_rowOf_0 : decode cX8_rowOf 0 = .ok (.bipush 64, 2) := by decide +kernel
theorem dX8_rowOf_2 : decode cX8_rowOf 2 = .ok (.iload_n 0, 1) := by decide +kernel
theorem dX8_rowOf_3 : decode cX8_rowOf 3 = .ok (.iadd, 1) := by decide +kernel
theorem dX8_rowOf_4 : decode cX8_rowOf 4 = .ok (.ireturn, 1) := by decide +kernel
theorem dX8_elementOf_0 : decode cX8_elementOf 0 = .ok (.iload_n 0, 1) := by decide +kernel
theorem dX8_elementOf_1 : decode cX8_elementOf 1 = .ok (.bipush 64, 2) := by decide +kernel
theorem dX8_elementOf_3 : decode cX8_elementOf 3 = .ok (.isub, 1) := by decide +kernel
theorem dX8_elementOf_4 : decode cX8_elementOf 4 = .ok (.ireturn, 1) := by decide +kernel
theorem dX9_init_0 : decode cX9_init 0 = .ok (.aload_n 0, 1) := by decide +kernel
theorem dX9_init_1 : decode cX9_init 1 = .ok (.invokespecial 1, 3) := by decide +kernel
theorem dX9_init_4 : decode cX9_init 4 = .ok (.aload_n 0, 1) := by decide +kernel
theorem dX9_init_5 : decode cX9_init 5 = .ok (.bipush 32, 2) := by decide +kernel
theorem dX9_init_7 : decode cX9_init 7 = .ok (.newarray .int, 2) := by decide +kernel
theorem dX9_init_9 : decode cX9_init 9 = .ok (.putfield 9, 3) := by decide +kernel
theorem dX9_init_12 : decode cX9_init 12 = .ok (.aload_n 0, 1) := by decide +kernel
theorem dX9_init_13 : decode cX9_init 13 = .ok (.bipush 32, 2) := by decide +kernel
theorem dX9_init_15 : decode cX9_init 15 = .ok (.newarray .boolean, 2) := by decide +kernel
theorem dX9_init_17 : decode cX9_init 17 = .ok (.putfield 13, 3) := by decide +kernel
theorem dX9_init_20 : decode cX9_init 20 = .ok (.aload_n 0, 1) := by decide +kernel
theorem dX9_init_21 : decode cX9_init 21 = .ok (.bipush 32, 2) := by decide +kernel
theorem dX9_init_23 : decode cX9_init 23 = .ok (.newarray .int, 2) := by decide +kernel
theorem dX9_init_25 : decode cX9_init 25 = .ok (.putfield 17, 3) := by decide +kernel
theorem dX9_init_28 : decode cX9_init 28 = .ok (.aload_n 0, 1) := by decide +kernel
theorem dX9_init_29 : decode cX9_init 29 = .ok (.sipush 480, 3) := by decide +kernel
theorem dX9_init_32 : decode cX9_init 32 = .ok (.newarray .int, 2) := by decide +kernel
theorem dX9_init_34 : decode cX9_init 34 = .ok (.putfield 20, 3) := by decide +kernel
theorem dX9_init_37 : decode cX9_init 37 = .ok (.aload_n 0, 1) := by decide +kernel
theorem dX9_init_38 : decode cX9_init 38 = .ok (.sipush 512, 3) := by decide +kernel
theorem dX9_init_41 : decode cX9_init 41 = .ok (.newarray .int, 2) := by decide +kernel
theorem dX9_init_43 : decode cX9_init 43 = .ok (.putfield 23, 3) := by decide +kernel
theorem dX9_init_46 : decode cX9_init 46 = .ok (.aload_n 0, 1) := by decide +kernel
theorem dX9_init_47 : decode cX9_init 47 = .ok (.bipush 64, 2) := by decide +kernel
theorem dX9_init_49 : decode cX9_init 49 = .ok (.newarray .int, 2) := by decide +kernel
theorem dX9_init_51 : decode cX9_init 51 = .ok (.putfield 26, 3) := by decide +kernel
theorem dX9_init_54 : decode cX9_init 54 = .ok (.aload_n 0, 1) := by decide +kernel
theorem dX9_init_55 : decode cX9_init 55 = .ok (.bipush 64, 2) := by decide +kernel
theorem dX9_init_57 : decode cX9_init 57 = .ok (.newarray .int, 2) := by decide +kernel
theorem dX9_init_59 : decode cX9_init 59 = .ok (.putfield 29, 3) := by decide +kernel
theorem dX9_init_62 : decode cX9_init 62 = .ok (.aload_n 0, 1) := by decide +kernel
theorem dX9_init_63 : decode cX9_init 63 = .ok (.bipush 64, 2) := by decide +kernel
theorem dX9_init_65 : decode cX9_init 65 = .ok (.newarray .int, 2) := by decide +kernel
theorem dX9_init_67 : decode cX9_init 67 = .ok (.putfield 32, 3) := by decide +kernel
theorem dX9_init_70 : decode cX9_init 70 = .ok (.aload_n 0, 1) := by decide +kernel
theorem dX9_init_71 : decode cX9_init 71 = .ok (.bipush 64, 2) := by decide +kernel
theorem dX9_init_73 : decode cX9_init 73 = .ok (.newarray .int, 2) := by decide +kernel
theorem dX9_init_75 : decode cX9_init 75 = .ok (.putfield 35, 3) := by decide +kernel
theorem dX9_init_78 : decode cX9_init 78 = .ok (.aload_n 0, 1) := by decide +kernel
theorem dX9_init_79 : decode cX9_init 79 = .ok (.bipush 64, 2) := by decide +kernel
theorem dX9_init_81 : decode cX9_init 81 = .ok (.newarray .int, 2) := by decide +kernel
theorem dX9_init_83 : decode cX9_init 83 = .ok (.putfield 38, 3) := by decide +kernel
theorem dX9_init_86 : decode cX9_init 86 = .ok (.aload_n 0, 1) := by decide +kernel
theorem dX9_init_87 : decode cX9_init 87 = .ok (.sipush 512, 3) := by decide +kernel
theorem dX9_init_90 : decode cX9_init 90 = .ok (.newarray .int, 2) := by decide +kernel
theorem dX9_init_92 : decode cX9_init 92 = .ok (.putfield 41, 3) := by decide +kernel
theorem dX9_init_95 : decode cX9_init 95 = .ok (.aload_n 0, 1) := by decide +kernel
theorem dX9_init_96 : decode cX9_init 96 = .ok (.bipush 64, 2) := by decide +kernel
theorem dX9_init_98 : decode cX9_init 98 = .ok (.newarray .boolean, 2) := by decide +kernel
theorem dX9_init_100 : decode cX9_init 100 = .ok (.putfield 44, 3) := by decide +kernel
theorem dX9_init_103 : decode cX9_init 103 = .ok (.aload_n 0, 1) := by decide +kernel
theorem dX9_init_104 : decode cX9_init 104 = .ok (.bipush 64, 2) := by decide +kernel
theorem dX9_init_106 : decode cX9_init 106 = .ok (.newarray .int, 2) := by decide +kernel
theorem dX9_init_108 : decode cX9_init 108 = .ok (.putfield 47, 3) := by decide +kernel
theorem dX9_init_111 : decode cX9_init 111 = .ok (.aload_n 0, 1) := by decide +kernel
theorem dX9_init_112 : decode cX9_init 112 = .ok (.sipush 12800, 3) := by decide +kernel
theorem dX9_init_115 : decode cX9_init 115 = .ok (.newarray .int, 2) := by decide +kernel
theorem dX9_init_117 : decode cX9_init 117 = .ok (.putfield 50, 3) := by decide +kernel
theorem dX9_init_120 : decode cX9_init 120 = .ok (.aload_n 0, 1) := by decide +kernel
theorem dX9_init_121 : decode cX9_init 121 = .ok (.sipush 12800, 3) := by decide +kernel
theorem dX9_init_124 : decode cX9_init 124 = .ok (.newarray .int, 2) := by decide +kernel
theorem dX9_init_126 : decode cX9_init 126 = .ok (.putfield 53, 3) := by decide +kernel
theorem dX9_init_129 : decode cX9_init 129 = .ok (.aload_n 0, 1) := by decide +kernel
theorem dX9_init_130 : decode cX9_init 130 = .ok (.sipush 12800, 3) := by decide +kernel
theorem dX9_init_133 : decode cX9_init 133 = .ok (.newarray .int, 2) := by decide +kernel
theorem dX9_init_135 : decode cX9_init 135 = .ok (.putfield 56, 3) := by decide +kernel
theorem dX9_init_138 : decode cX9_init 138 = .ok (.aload_n 0, 1) := by decide +kernel
theorem dX9_init_139 : decode cX9_init 139 = .ok (.bipush 64, 2) := by decide +kernel
theorem dX9_init_141 : decode cX9_init 141 = .ok (.newarray .int, 2) := by decide +kernel
theorem dX9_init_143 : decode cX9_init 143 = .ok (.putfield 59, 3) := by decide +kernel
theorem dX9_init_146 : decode cX9_init 146 = .ok (.aload_n 0, 1) := by decide +kernel
theorem dX9_init_147 : decode cX9_init 147 = .ok (.sipush 512, 3) := by decide +kernel
theorem dX9_init_150 : decode cX9_init 150 = .ok (.newarray .int, 2) := by decide +kernel
theorem dX9_init_152 : decode cX9_init 152 = .ok (.putfield 62, 3) := by decide +kernel
theorem dX9_init_155 : decode cX9_init 155 = .ok (.aload_n 0, 1) := by decide +kernel
theorem dX9_init_156 : decode cX9_init 156 = .ok (.sipush 512, 3) := by decide +kernel
theorem dX9_init_159 : decode cX9_init 159 = .ok (.newarray .int, 2) := by decide +kernel
theorem dX9_init_161 : decode cX9_init 161 = .ok (.putfield 65, 3) := by decide +kernel
theorem dX9_init_164 : decode cX9_init 164 = .ok (.aload_n 0, 1) := by decide +kernel
theorem dX9_init_165 : decode cX9_init 165 = .ok (.sipush 512, 3) := by decide +kernel
theorem dX9_init_168 : decode cX9_init 168 = .ok (.newarray .int, 2) := by decide +kernel
theorem dX9_init_170 : decode cX9_init 170 = .ok (.putfield 68, 3) := by decide +kernel
theorem dX9_init_173 : decode cX9_init 173 = .ok (.aload_n 0, 1) := by decide +kernel
theorem dX9_init_174 : decode cX9_init 174 = .ok (.sipush 512, 3) := by decide +kernel
theorem dX9_init_177 : decode cX9_init 177 = .ok (.newarray .int, 2) := by decide +kernel
theorem dX9_init_179 : decode cX9_init 179 = .ok (.putfield 71, 3) := by decide +kernel
theorem dX9_init_182 : decode cX9_init 182 = .ok (.aload_n 0, 1) := by decide +kernel
theorem dX9_init_183 : decode cX9_init 183 = .ok (.bipush 64, 2) := by decide +kernel
theorem dX9_init_185 : decode cX9_init 185 = .ok (.newarray .boolean, 2) := by decide +kernel
theorem dX9_init_187 : decode cX9_init 187 = .ok (.putfield 74, 3) := by decide +kernel
theorem dX9_init_190 : decode cX9_init 190 = .ok (.aload_n 0, 1) := by decide +kernel
theorem dX9_init_191 : decode cX9_init 191 = .ok (.sipush 12800, 3) := by decide +kernel
theorem dX9_init_194 : decode cX9_init 194 = .ok (.newarray .int, 2) := by decide +kernel
theorem dX9_init_196 : decode cX9_init 196 = .ok (.putfield 77, 3) := by decide +kernel
theorem dX9_init_199 : decode cX9_init 199 = .ok (.aload_n 0, 1) := by decide +kernel
theorem dX9_init_200 : decode cX9_init 200 = .ok (.ldc 80, 2) := by decide +kernel
theorem dX9_init_202 : decode cX9_init 202 = .ok (.newarray .int, 2) := by decide +kernel
theorem dX9_init_204 : decode cX9_init 204 = .ok (.putfield 81, 3) := by decide +kernel
theorem dX9_init_207 : decode cX9_init 207 = .ok (.aload_n 0, 1) := by decide +kernel
theorem dX9_init_208 : decode cX9_init 208 = .ok (.sipush 200, 3) := by decide +kernel
theorem dX9_init_211 : decode cX9_init 211 = .ok (.newarray .boolean, 2) := by decide +kernel
theorem dX9_init_213 : decode cX9_init 213 = .ok (.putfield 84, 3) := by decide +kernel
theorem dX9_init_216 : decode cX9_init 216 = .ok (.aload_n 0, 1) := by decide +kernel
theorem dX9_init_217 : decode cX9_init 217 = .ok (.bipush 12, 2) := by decide +kernel
theorem dX9_init_219 : decode cX9_init 219 = .ok (.newarray .int, 2) := by decide +kernel
theorem dX9_init_221 : decode cX9_init 221 = .ok (.putfield 87, 3) := by decide +kernel
theorem dX9_init_224 : decode cX9_init 224 = .ok (.return_, 1) := by decide +kernel
theorem dX9_isClass_0 : decode cX9_isClass 0 = .ok (.iload_n 1, 1) := by decide +kernel
theorem dX9_isClass_1 : decode cX9_isClass 1 = .ok (.ifCond .lt 15, 3) := by decide +kernel
theorem dX9_isClass_4 : decode cX9_isClass 4 = .ok (.iload_n 1, 1) := by decide +kernel
theorem dX9_isClass_5 : decode cX9_isClass 5 = .ok (.aload_n 0, 1) := by decide +kernel
theorem dX9_isClass_6 : decode cX9_isClass 6 = .ok (.getfield 90, 3) := by decide +kernel
theorem dX9_isClass_9 : decode cX9_isClass 9 = .ok (.if_icmp .ge 7, 3) := by decide +kernel
theorem dX9_isClass_12 : decode cX9_isClass 12 = .ok (.iconst 1, 1) := by decide +kernel
theorem dX9_isClass_13 : decode cX9_isClass 13 = .ok (.goto 4, 3) := by decide +kernel
theorem dX9_isClass_16 : decode cX9_isClass 16 = .ok (.iconst 0, 1) := by decide +kernel
theorem dX9_isClass_17 : decode cX9_isClass 17 = .ok (.ireturn, 1) := by decide +kernel
theorem dX9_isMethod_0 : decode cX9_isMethod 0 = .ok (.iload_n 1, 1) := by decide +kernel
theorem dX9_isMethod_1 : decode cX9_isMethod 1 = .ok (.ifCond .lt 15, 3) := by decide +kernel
theorem dX9_isMethod_4 : decode cX9_isMethod 4 = .ok (.iload_n 1, 1) := by decide +kernel
theorem dX9_isMethod_5 : decode cX9_isMethod 5 = .ok (.aload_n 0, 1) := by decide +kernel
theorem dX9_isMethod_6 : decode cX9_isMethod 6 = .ok (.getfield 94, 3) := by decide +kernel
theorem dX9_isMethod_9 : decode cX9_isMethod 9 = .ok (.if_icmp .ge 7, 3) := by decide +kernel
theorem dX9_isMethod_12 : decode cX9_isMethod 12 = .ok (.iconst 1, 1) := by decide +kernel
theorem dX9_isMethod_13 : decode cX9_isMethod 13 = .ok (.goto 4, 3) := by decide +kernel
theorem dX9_isMethod_16 : decode cX9_isMethod 16 = .ok (.iconst 0, 1) := by decide +kernel
theorem dX9_isMethod_17 : decode cX9_isMethod 17 = .ok (.ireturn, 1) := by decide +kernel
theorem dX9_isType_0 : decode cX9_isType 0 = .ok (.iload_n 1, 1) := by decide +kernel
theorem dX9_isType_1 : decode cX9_isType 1 = .ok (.ifCond .lt 11, 3) := by decide +kernel
theorem dX9_isType_4 : decode cX9_isType 4 = .ok (.iload_n 1, 1) := by decide +kernel
theorem dX9_isType_5 : decode cX9_isType 5 = .ok (.aload_n 0, 1) := by decide +kernel
theorem dX9_isType_6 : decode cX9_isType 6 = .ok (.getfield 90, 3) := by decide +kernel
theorem dX9_isType_9 : decode cX9_isType 9 = .ok (.if_icmp .le 20, 3) := by decide +kernel
theorem dX9_isType_12 : decode cX9_isType 12 = .ok (.iload_n 1, 1) := by decide +kernel
theorem dX9_isType_13 : decode cX9_isType 13 = .ok (.bipush 64, 2) := by decide +kernel
theorem dX9_isType_15 : decode cX9_isType 15 = .ok (.if_icmp .lt 18, 3) := by decide +kernel
theorem dX9_isType_18 : decode cX9_isType 18 = .ok (.iload_n 1, 1) := by decide +kernel
theorem dX9_isType_19 : decode cX9_isType 19 = .ok (.bipush 64, 2) := by decide +kernel
theorem dX9_isType_21 : decode cX9_isType 21 = .ok (.aload_n 0, 1) := by decide +kernel
theorem dX9_isType_22 : decode cX9_isType 22 = .ok (.getfield 90, 3) := by decide +kernel
theorem dX9_isType_25 : decode cX9_isType 25 = .ok (.iadd, 1) := by decide +kernel
theorem dX9_isType_26 : decode cX9_isType 26 = .ok (.if_icmp .gt 7, 3) := by decide +kernel
theorem dX9_isType_29 : decode cX9_isType 29 = .ok (.iconst 1, 1) := by decide +kernel
theorem dX9_isType_30 : decode cX9_isType 30 = .ok (.goto 4, 3) := by decide +kernel
theorem dX9_isType_33 : decode cX9_isType 33 = .ok (.iconst 0, 1) := by decide +kernel
theorem dX9_isType_34 : decode cX9_isType 34 = .ok (.ireturn, 1) := by decide +kernel
theorem dX9_isRow_0 : decode cX9_isRow 0 = .ok (.iload_n 0, 1) := by decide +kernel
theorem dX9_isRow_1 : decode cX9_isRow 1 = .ok (.bipush 64, 2) := by decide +kernel
theorem dX9_isRow_3 : decode cX9_isRow 3 = .ok (.if_icmp .lt 13, 3) := by decide +kernel
theorem dX9_isRow_6 : decode cX9_isRow 6 = .ok (.iload_n 0, 1) := by decide +kernel
theorem dX9_isRow_7 : decode cX9_isRow 7 = .ok (.bipush 96, 2) := by decide +kernel
theorem dX9_isRow_9 : decode cX9_isRow 9 = .ok (.if_icmp .gt 7, 3) := by decide +kernel
theorem dX9_isRow_12 : decode cX9_isRow 12 = .ok (.iconst 1, 1) := by decide +kernel
theorem dX9_isRow_13 : decode cX9_isRow 13 = .ok (.goto 4, 3) := by decide +kernel
theorem dX9_isRow_16 : decode cX9_isRow 16 = .ok (.iconst 0, 1) := by decide +kernel
theorem dX9_isRow_17 : decode cX9_isRow 17 = .ok (.ireturn, 1) := by decide +kernel
theorem dX9_isSome_0 : decode cX9_isSome 0 = .ok (.iload_n 0, 1) := by decide +kernel
theorem dX9_isSome_1 : decode cX9_isSome 1 = .ok (.ifCond .le 13, 3) := by decide +kernel
theorem dX9_isSome_4 : decode cX9_isSome 4 = .ok (.iload_n 0, 1) := by decide +kernel
theorem dX9_isSome_5 : decode cX9_isSome 5 = .ok (.bipush 32, 2) := by decide +kernel
theorem dX9_isSome_7 : decode cX9_isSome 7 = .ok (.if_icmp .gt 7, 3) := by decide +kernel
theorem dX9_isSome_10 : decode cX9_isSome 10 = .ok (.iconst 1, 1) := by decide +kernel
theorem dX9_isSome_11 : decode cX9_isSome 11 = .ok (.goto 4, 3) := by decide +kernel
theorem dX9_isSome_14 : decode cX9_isSome 14 = .ok (.iconst 0, 1) := by decide +kernel
theorem dX9_isSome_15 : decode cX9_isSome 15 = .ok (.ireturn, 1) := by decide +kernel
theorem dX9_isReference_0 : decode cX9_isReference 0 = .ok (.iload_n 0, 1) := by decide +kernel
theorem dX9_isReference_1 : decode cX9_isReference 1 = .ok (.ifCond .eq 13, 3) := by decide +kernel
theorem dX9_isReference_4 : decode cX9_isReference 4 = .ok (.iload_n 0, 1) := by decide +kernel
theorem dX9_isReference_5 : decode cX9_isReference 5 = .ok (.bipush 99, 2) := by decide +kernel
theorem dX9_isReference_7 : decode cX9_isReference 7 = .ok (.if_icmp .eq 7, 3) := by decide +kernel
theorem dX9_isReference_10 : decode cX9_isReference 10 = .ok (.iconst 1, 1) := by decide +kernel
theorem dX9_isReference_11 : decode cX9_isReference 11 = .ok (.goto 4, 3) := by decide +kernel
theorem dX9_isReference_14 : decode cX9_isReference 14 = .ok (.iconst 0, 1) := by decide +kernel
theorem dX9_isReference_15 : decode cX9_isReference 15 = .ok (.ireturn, 1) := by decide +kernel
theorem dX9_isUnder_0 : decode cX9_isUnder 0 = .ok (.iload_n 1, 1) := by decide +kernel
theorem dX9_isUnder_1 : decode cX9_isUnder 1 = .ok (.istore_n 3, 1) := by decide +kernel
theorem dX9_isUnder_2 : decode cX9_isUnder 2 = .ok (.iload_n 3, 1) := by decide +kernel
theorem dX9_isUnder_3 : decode cX9_isUnder 3 = .ok (.ifCond .lt 18, 3) := by decide +kernel
theorem dX9_isUnder_6 : decode cX9_isUnder 6 = .ok (.iload_n 3, 1) := by decide +kernel
theorem dX9_isUnder_7 : decode cX9_isUnder 7 = .ok (.iload_n 2, 1) := by decide +kernel
theorem dX9_isUnder_8 : decode cX9_isUnder 8 = .ok (.if_icmp .eq 13, 3) := by decide +kernel
theorem dX9_isUnder_11 : decode cX9_isUnder 11 = .ok (.aload_n 0, 1) := by decide +kernel
theorem dX9_isUnder_12 : decode cX9_isUnder 12 = .ok (.getfield 9, 3) := by decide +kernel
theorem dX9_isUnder_15 : decode cX9_isUnder 15 = .ok (.iload_n 3, 1) := by decide +kernel
theorem dX9_isUnder_16 : decode cX9_isUnder 16 = .ok (.iaload, 1) := by decide +kernel
theorem dX9_isUnder_17 : decode cX9_isUnder 17 = .ok (.istore_n 3, 1) := by decide +kernel
theorem dX9_isUnder_18 : decode cX9_isUnder 18 = .ok (.goto (-16), 3) := by decide +kernel
theorem dX9_isUnder_21 : decode cX9_isUnder 21 = .ok (.iload_n 3, 1) := by decide +kernel
theorem dX9_isUnder_22 : decode cX9_isUnder 22 = .ok (.iload_n 2, 1) := by decide +kernel
theorem dX9_isUnder_23 : decode cX9_isUnder 23 = .ok (.if_icmp .ne 7, 3) := by decide +kernel
theorem dX9_isUnder_26 : decode cX9_isUnder 26 = .ok (.iconst 1, 1) := by decide +kernel
theorem dX9_isUnder_27 : decode cX9_isUnder 27 = .ok (.goto 4, 3) := by decide +kernel
theorem dX9_isUnder_30 : decode cX9_isUnder 30 = .ok (.iconst 0, 1) := by decide +kernel
theorem dX9_isUnder_31 : decode cX9_isUnder 31 = .ok (.ireturn, 1) := by decide +kernel
theorem dX9_kind_0 : decode cX9_kind 0 = .ok (.iload_n 1, 1) := by decide +kernel
theorem dX9_kind_1 : decode cX9_kind 1 = .ok (.iconst (-1), 1) := by decide +kernel
theorem dX9_kind_2 : decode cX9_kind 2 = .ok (.if_icmp .eq 13, 3) := by decide +kernel
theorem dX9_kind_5 : decode cX9_kind 5 = .ok (.aload_n 0, 1) := by decide +kernel
theorem dX9_kind_6 : decode cX9_kind 6 = .ok (.iload_n 1, 1) := by decide +kernel
theorem dX9_kind_7 : decode cX9_kind 7 = .ok (.invokevirtual 97, 3) := by decide +kernel
theorem dX9_kind_10 : decode cX9_kind 10 = .ok (.ifCond .ne 5, 3) := by decide +kernel
theorem dX9_kind_13 : decode cX9_kind 13 = .ok (.iconst (-1), 1) := by decide +kernel
theorem dX9_kind_14 : decode cX9_kind 14 = .ok (.ireturn, 1) := by decide +kernel
theorem dX9_kind_15 : decode cX9_kind 15 = .ok (.aload_n 0, 1) := by decide +kernel
theorem dX9_kind_16 : decode cX9_kind 16 = .ok (.getfield 90, 3) := by decide +kernel
theorem dX9_kind_19 : decode cX9_kind 19 = .ok (.bipush 32, 2) := by decide +kernel
theorem dX9_kind_21 : decode cX9_kind 21 = .ok (.if_icmp .ne 6, 3) := by decide +kernel
theorem dX9_kind_24 : decode cX9_kind 24 = .ok (.bipush (-2), 2) := by decide +kernel
theorem dX9_kind_26 : decode cX9_kind 26 = .ok (.ireturn, 1) := by decide +kernel
theorem dX9_kind_27 : decode cX9_kind 27 = .ok (.aload_n 0, 1) := by decide +kernel
theorem dX9_kind_28 : decode cX9_kind 28 = .ok (.getfield 90, 3) := by decide +kernel
theorem dX9_kind_31 : decode cX9_kind 31 = .ok (.istore_n 2, 1) := by decide +kernel
theorem dX9_kind_32 : decode cX9_kind 32 = .ok (.aload_n 0, 1) := by decide +kernel
theorem dX9_kind_33 : decode cX9_kind 33 = .ok (.getfield 9, 3) := by decide +kernel
theorem dX9_kind_36 : decode cX9_kind 36 = .ok (.iload_n 2, 1) := by decide +kernel
theorem dX9_kind_37 : decode cX9_kind 37 = .ok (.iload_n 1, 1) := by decide +kernel
theorem dX9_kind_38 : decode cX9_kind 38 = .ok (.iastore, 1) := by decide +kernel
theorem dX9_kind_39 : decode cX9_kind 39 = .ok (.aload_n 0, 1) := by decide +kernel
theorem dX9_kind_40 : decode cX9_kind 40 = .ok (.getfield 17, 3) := by decide +kernel
theorem dX9_kind_43 : decode cX9_kind 43 = .ok (.iload_n 2, 1) := by decide +kernel
theorem dX9_kind_44 : decode cX9_kind 44 = .ok (.iload_n 1, 1) := by decide +kernel
theorem dX9_kind_45 : decode cX9_kind 45 = .ok (.ifCond .ge 7, 3) := by decide +kernel
theorem dX9_kind_48 : decode cX9_kind 48 = .ok (.iconst 0, 1) := by decide +kernel
theorem dX9_kind_49 : decode cX9_kind 49 = .ok (.goto 9, 3) := by decide +kernel
theorem dX9_kind_52 : decode cX9_kind 52 = .ok (.aload_n 0, 1) := by decide +kernel
theorem dX9_kind_53 : decode cX9_kind 53 = .ok (.getfield 17, 3) := by decide +kernel
theorem dX9_kind_56 : decode cX9_kind 56 = .ok (.iload_n 1, 1) := by decide +kernel
theorem dX9_kind_57 : decode cX9_kind 57 = .ok (.iaload, 1) := by decide +kernel
theorem dX9_kind_58 : decode cX9_kind 58 = .ok (.iastore, 1) := by decide +kernel
theorem dX9_kind_59 : decode cX9_kind 59 = .ok (.iconst 0, 1) := by decide +kernel
theorem dX9_kind_60 : decode cX9_kind 60 = .ok (.istore_n 3, 1) := by decide +kernel
theorem dX9_kind_61 : decode cX9_kind 61 = .ok (.iload_n 3, 1) := by decide +kernel
theorem dX9_kind_62 : decode cX9_kind 62 = .ok (.aload_n 0, 1) := by decide +kernel
theorem dX9_kind_63 : decode cX9_kind 63 = .ok (.getfield 17, 3) := by decide +kernel
theorem dX9_kind_66 : decode cX9_kind 66 = .ok (.iload_n 2, 1) := by decide +kernel
theorem dX9_kind_67 : decode cX9_kind 67 = .ok (.iaload, 1) := by decide +kernel
theorem dX9_kind_68 : decode cX9_kind 68 = .ok (.if_icmp .ge 31, 3) := by decide +kernel
theorem dX9_kind_71 : decode cX9_kind 71 = .ok (.aload_n 0, 1) := by decide +kernel
theorem dX9_kind_72 : decode cX9_kind 72 = .ok (.getfield 20, 3) := by decide +kernel
theorem dX9_kind_75 : decode cX9_kind 75 = .ok (.bipush 15, 2) := by decide +kernel
theorem dX9_kind_77 : decode cX9_kind 77 = .ok (.iload_n 2, 1) := by decide +kernel
theorem dX9_kind_78 : decode cX9_kind 78 = .ok (.imul, 1) := by decide +kernel
theorem dX9_kind_79 : decode cX9_kind 79 = .ok (.iload_n 3, 1) := by decide +kernel
theorem dX9_kind_80 : decode cX9_kind 80 = .ok (.iadd, 1) := by decide +kernel
theorem dX9_kind_81 : decode cX9_kind 81 = .ok (.aload_n 0, 1) := by decide +kernel
theorem dX9_kind_82 : decode cX9_kind 82 = .ok (.getfield 20, 3) := by decide +kernel
theorem dX9_kind_85 : decode cX9_kind 85 = .ok (.bipush 15, 2) := by decide +kernel
theorem dX9_kind_87 : decode cX9_kind 87 = .ok (.iload_n 1, 1) := by decide +kernel
theorem dX9_kind_88 : decode cX9_kind 88 = .ok (.imul, 1) := by decide +kernel
theorem dX9_kind_89 : decode cX9_kind 89 = .ok (.iload_n 3, 1) := by decide +kernel
theorem dX9_kind_90 : decode cX9_kind 90 = .ok (.iadd, 1) := by decide +kernel
theorem dX9_kind_91 : decode cX9_kind 91 = .ok (.iaload, 1) := by decide +kernel
theorem dX9_kind_92 : decode cX9_kind 92 = .ok (.iastore, 1) := by decide +kernel
theorem dX9_kind_93 : decode cX9_kind 93 = .ok (.iinc 3 1, 3) := by decide +kernel
theorem dX9_kind_96 : decode cX9_kind 96 = .ok (.goto (-35), 3) := by decide +kernel
theorem dX9_kind_99 : decode cX9_kind 99 = .ok (.iconst 0, 1) := by decide +kernel
theorem dX9_kind_100 : decode cX9_kind 100 = .ok (.istore_n 3, 1) := by decide +kernel
theorem dX9_kind_101 : decode cX9_kind 101 = .ok (.iload_n 3, 1) := by decide +kernel
theorem dX9_kind_102 : decode cX9_kind 102 = .ok (.bipush 16, 2) := by decide +kernel
theorem dX9_kind_104 : decode cX9_kind 104 = .ok (.if_icmp .ge 39, 3) := by decide +kernel
theorem dX9_kind_107 : decode cX9_kind 107 = .ok (.aload_n 0, 1) := by decide +kernel
theorem dX9_kind_108 : decode cX9_kind 108 = .ok (.getfield 23, 3) := by decide +kernel
theorem dX9_kind_111 : decode cX9_kind 111 = .ok (.bipush 16, 2) := by decide +kernel
theorem dX9_kind_113 : decode cX9_kind 113 = .ok (.iload_n 2, 1) := by decide +kernel
theorem dX9_kind_114 : decode cX9_kind 114 = .ok (.imul, 1) := by decide +kernel
end
section
theorem dX9_kind_115 : decode cX9_kind 115 = .ok (.iload_n 3, 1) := by decide +kernel
theorem dX9_kind_116 : decode cX9_kind 116 = .ok (.iadd, 1) := by decide +kernel
theorem dX9_kind_117 : decode cX9_kind 117 = .ok (.iload_n 1, 1) := by decide +kernel
theorem dX9_kind_118 : decode cX9_kind 118 = .ok (.ifCond .ge 7, 3) := by decide +kernel
theorem dX9_kind_121 : decode cX9_kind 121 = .ok (.iconst (-1), 1) := by decide +kernel
theorem dX9_kind_122 : decode cX9_kind 122 = .ok (.goto 14, 3) := by decide +kernel
theorem dX9_kind_125 : decode cX9_kind 125 = .ok (.aload_n 0, 1) := by decide +kernel
theorem dX9_kind_126 : decode cX9_kind 126 = .ok (.getfield 23, 3) := by decide +kernel
theorem dX9_kind_129 : decode cX9_kind 129 = .ok (.bipush 16, 2) := by decide +kernel
theorem dX9_kind_131 : decode cX9_kind 131 = .ok (.iload_n 1, 1) := by decide +kernel
theorem dX9_kind_132 : decode cX9_kind 132 = .ok (.imul, 1) := by decide +kernel
theorem dX9_kind_133 : decode cX9_kind 133 = .ok (.iload_n 3, 1) := by decide +kernel
theorem dX9_kind_134 : decode cX9_kind 134 = .ok (.iadd, 1) := by decide +kernel
theorem dX9_kind_135 : decode cX9_kind 135 = .ok (.iaload, 1) := by decide +kernel
theorem dX9_kind_136 : decode cX9_kind 136 = .ok (.iastore, 1) := by decide +kernel
theorem dX9_kind_137 : decode cX9_kind 137 = .ok (.iinc 3 1, 3) := by decide +kernel
theorem dX9_kind_140 : decode cX9_kind 140 = .ok (.goto (-39), 3) := by decide +kernel
theorem dX9_kind_143 : decode cX9_kind 143 = .ok (.aload_n 0, 1) := by decide +kernel
theorem dX9_kind_144 : decode cX9_kind 144 = .ok (.getfield 13, 3) := by decide +kernel
theorem dX9_kind_147 : decode cX9_kind 147 = .ok (.iload_n 2, 1) := by decide +kernel
theorem dX9_kind_148 : decode cX9_kind 148 = .ok (.iconst 0, 1) := by decide +kernel
theorem dX9_kind_149 : decode cX9_kind 149 = .ok (.bastore, 1) := by decide +kernel
theorem dX9_kind_150 : decode cX9_kind 150 = .ok (.iload_n 1, 1) := by decide +kernel
theorem dX9_kind_151 : decode cX9_kind 151 = .ok (.ifCond .lt 10, 3) := by decide +kernel
theorem dX9_kind_154 : decode cX9_kind 154 = .ok (.aload_n 0, 1) := by decide +kernel
theorem dX9_kind_155 : decode cX9_kind 155 = .ok (.getfield 13, 3) := by decide +kernel
theorem dX9_kind_158 : decode cX9_kind 158 = .ok (.iload_n 1, 1) := by decide +kernel
theorem dX9_kind_159 : decode cX9_kind 159 = .ok (.iconst 1, 1) := by decide +kernel
theorem dX9_kind_160 : decode cX9_kind 160 = .ok (.bastore, 1) := by decide +kernel
theorem dX9_kind_161 : decode cX9_kind 161 = .ok (.aload_n 0, 1) := by decide +kernel
theorem dX9_kind_162 : decode cX9_kind 162 = .ok (.dup, 1) := by decide +kernel
theorem dX9_kind_163 : decode cX9_kind 163 = .ok (.getfield 90, 3) := by decide +kernel
theorem dX9_kind_166 : decode cX9_kind 166 = .ok (.iconst 1, 1) := by decide +kernel
theorem dX9_kind_167 : decode cX9_kind 167 = .ok (.iadd, 1) := by decide +kernel
theorem dX9_kind_168 : decode cX9_kind 168 = .ok (.putfield 90, 3) := by decide +kernel
theorem dX9_kind_171 : decode cX9_kind 171 = .ok (.iload_n 2, 1) := by decide +kernel
theorem dX9_kind_172 : decode cX9_kind 172 = .ok (.ireturn, 1) := by decide +kernel
theorem dX9_field_0 : decode cX9_field 0 = .ok (.aload_n 0, 1) := by decide +kernel
theorem dX9_field_1 : decode cX9_field 1 = .ok (.iload_n 1, 1) := by decide +kernel
theorem dX9_field_2 : decode cX9_field 2 = .ok (.invokevirtual 97, 3) := by decide +kernel
theorem dX9_field_5 : decode cX9_field 5 = .ok (.ifCond .eq 20, 3) := by decide +kernel
theorem dX9_field_8 : decode cX9_field 8 = .ok (.aload_n 0, 1) := by decide +kernel
theorem dX9_field_9 : decode cX9_field 9 = .ok (.iload_n 2, 1) := by decide +kernel
theorem dX9_field_10 : decode cX9_field 10 = .ok (.invokevirtual 101, 3) := by decide +kernel
theorem dX9_field_13 : decode cX9_field 13 = .ok (.ifCond .eq 12, 3) := by decide +kernel
theorem dX9_field_16 : decode cX9_field 16 = .ok (.aload_n 0, 1) := by decide +kernel
theorem dX9_field_17 : decode cX9_field 17 = .ok (.getfield 13, 3) := by decide +kernel
theorem dX9_field_20 : decode cX9_field 20 = .ok (.iload_n 1, 1) := by decide +kernel
theorem dX9_field_21 : decode cX9_field 21 = .ok (.baload, 1) := by decide +kernel
theorem dX9_field_22 : decode cX9_field 22 = .ok (.ifCond .eq 5, 3) := by decide +kernel
theorem dX9_field_25 : decode cX9_field 25 = .ok (.iconst (-1), 1) := by decide +kernel
theorem dX9_field_26 : decode cX9_field 26 = .ok (.ireturn, 1) := by decide +kernel
theorem dX9_field_27 : decode cX9_field 27 = .ok (.aload_n 0, 1) := by decide +kernel
theorem dX9_field_28 : decode cX9_field 28 = .ok (.getfield 17, 3) := by decide +kernel
theorem dX9_field_31 : decode cX9_field 31 = .ok (.iload_n 1, 1) := by decide +kernel
theorem dX9_field_32 : decode cX9_field 32 = .ok (.iaload, 1) := by decide +kernel
theorem dX9_field_33 : decode cX9_field 33 = .ok (.bipush 15, 2) := by decide +kernel
theorem dX9_field_35 : decode cX9_field 35 = .ok (.if_icmp .ne 6, 3) := by decide +kernel
theorem dX9_field_38 : decode cX9_field 38 = .ok (.bipush (-2), 2) := by decide +kernel
theorem dX9_field_40 : decode cX9_field 40 = .ok (.ireturn, 1) := by decide +kernel
theorem dX9_field_41 : decode cX9_field 41 = .ok (.aload_n 0, 1) := by decide +kernel
theorem dX9_field_42 : decode cX9_field 42 = .ok (.getfield 20, 3) := by decide +kernel
theorem dX9_field_45 : decode cX9_field 45 = .ok (.bipush 15, 2) := by decide +kernel
theorem dX9_field_47 : decode cX9_field 47 = .ok (.iload_n 1, 1) := by decide +kernel
theorem dX9_field_48 : decode cX9_field 48 = .ok (.imul, 1) := by decide +kernel
theorem dX9_field_49 : decode cX9_field 49 = .ok (.aload_n 0, 1) := by decide +kernel
theorem dX9_field_50 : decode cX9_field 50 = .ok (.getfield 17, 3) := by decide +kernel
theorem dX9_field_53 : decode cX9_field 53 = .ok (.iload_n 1, 1) := by decide +kernel
theorem dX9_field_54 : decode cX9_field 54 = .ok (.iaload, 1) := by decide +kernel
theorem dX9_field_55 : decode cX9_field 55 = .ok (.iadd, 1) := by decide +kernel
theorem dX9_field_56 : decode cX9_field 56 = .ok (.iload_n 2, 1) := by decide +kernel
theorem dX9_field_57 : decode cX9_field 57 = .ok (.iastore, 1) := by decide +kernel
theorem dX9_field_58 : decode cX9_field 58 = .ok (.aload_n 0, 1) := by decide +kernel
theorem dX9_field_59 : decode cX9_field 59 = .ok (.getfield 17, 3) := by decide +kernel
theorem dX9_field_62 : decode cX9_field 62 = .ok (.iload_n 1, 1) := by decide +kernel
theorem dX9_field_63 : decode cX9_field 63 = .ok (.dup2, 1) := by decide +kernel
theorem dX9_field_64 : decode cX9_field 64 = .ok (.iaload, 1) := by decide +kernel
theorem dX9_field_65 : decode cX9_field 65 = .ok (.iconst 1, 1) := by decide +kernel
theorem dX9_field_66 : decode cX9_field 66 = .ok (.iadd, 1) := by decide +kernel
theorem dX9_field_67 : decode cX9_field 67 = .ok (.iastore, 1) := by decide +kernel
theorem dX9_field_68 : decode cX9_field 68 = .ok (.aload_n 0, 1) := by decide +kernel
theorem dX9_field_69 : decode cX9_field 69 = .ok (.getfield 17, 3) := by decide +kernel
theorem dX9_field_72 : decode cX9_field 72 = .ok (.iload_n 1, 1) := by decide +kernel
theorem dX9_field_73 : decode cX9_field 73 = .ok (.iaload, 1) := by decide +kernel
theorem dX9_field_74 : decode cX9_field 74 = .ok (.iconst 1, 1) := by decide +kernel
theorem dX9_field_75 : decode cX9_field 75 = .ok (.isub, 1) := by decide +kernel
theorem dX9_field_76 : decode cX9_field 76 = .ok (.ireturn, 1) := by decide +kernel
theorem dX9_method_0 : decode cX9_method 0 = .ok (.iload_n 1, 1) := by decide +kernel
theorem dX9_method_1 : decode cX9_method 1 = .ok (.iconst (-1), 1) := by decide +kernel
theorem dX9_method_2 : decode cX9_method 2 = .ok (.if_icmp .eq 11, 3) := by decide +kernel
theorem dX9_method_5 : decode cX9_method 5 = .ok (.aload_n 0, 1) := by decide +kernel
theorem dX9_method_6 : decode cX9_method 6 = .ok (.iload_n 1, 1) := by decide +kernel
theorem dX9_method_7 : decode cX9_method 7 = .ok (.invokevirtual 97, 3) := by decide +kernel
theorem dX9_method_10 : decode cX9_method 10 = .ok (.ifCond .eq 55, 3) := by decide +kernel
theorem dX9_method_13 : decode cX9_method 13 = .ok (.iload_n 2, 1) := by decide +kernel
theorem dX9_method_14 : decode cX9_method 14 = .ok (.iconst (-1), 1) := by decide +kernel
theorem dX9_method_15 : decode cX9_method 15 = .ok (.if_icmp .eq 11, 3) := by decide +kernel
theorem dX9_method_18 : decode cX9_method 18 = .ok (.aload_n 0, 1) := by decide +kernel
theorem dX9_method_19 : decode cX9_method 19 = .ok (.iload_n 2, 1) := by decide +kernel
theorem dX9_method_20 : decode cX9_method 20 = .ok (.invokevirtual 101, 3) := by decide +kernel
theorem dX9_method_23 : decode cX9_method 23 = .ok (.ifCond .eq 42, 3) := by decide +kernel
theorem dX9_method_26 : decode cX9_method 26 = .ok (.iload_n 3, 1) := by decide +kernel
theorem dX9_method_27 : decode cX9_method 27 = .ok (.ifCond .lt 38, 3) := by decide +kernel
theorem dX9_method_30 : decode cX9_method 30 = .ok (.iload 4, 2) := by decide +kernel
theorem dX9_method_32 : decode cX9_method 32 = .ok (.ifCond .lt 33, 3) := by decide +kernel
theorem dX9_method_35 : decode cX9_method 35 = .ok (.iload_n 3, 1) := by decide +kernel
theorem dX9_method_36 : decode cX9_method 36 = .ok (.bipush 12, 2) := by decide +kernel
theorem dX9_method_38 : decode cX9_method 38 = .ok (.if_icmp .gt 27, 3) := by decide +kernel
theorem dX9_method_41 : decode cX9_method 41 = .ok (.iload 4, 2) := by decide +kernel
theorem dX9_method_43 : decode cX9_method 43 = .ok (.bipush 12, 2) := by decide +kernel
theorem dX9_method_45 : decode cX9_method 45 = .ok (.if_icmp .gt 20, 3) := by decide +kernel
theorem dX9_method_48 : decode cX9_method 48 = .ok (.iload_n 3, 1) := by decide +kernel
theorem dX9_method_49 : decode cX9_method 49 = .ok (.iload 4, 2) := by decide +kernel
theorem dX9_method_51 : decode cX9_method 51 = .ok (.iadd, 1) := by decide +kernel
theorem dX9_method_52 : decode cX9_method 52 = .ok (.bipush 12, 2) := by decide +kernel
theorem dX9_method_54 : decode cX9_method 54 = .ok (.if_icmp .gt 11, 3) := by decide +kernel
theorem dX9_method_57 : decode cX9_method 57 = .ok (.iload_n 1, 1) := by decide +kernel
theorem dX9_method_58 : decode cX9_method 58 = .ok (.ifCond .lt 9, 3) := by decide +kernel
theorem dX9_method_61 : decode cX9_method 61 = .ok (.iload_n 3, 1) := by decide +kernel
theorem dX9_method_62 : decode cX9_method 62 = .ok (.ifCond .ne 5, 3) := by decide +kernel
theorem dX9_method_65 : decode cX9_method 65 = .ok (.iconst (-1), 1) := by decide +kernel
theorem dX9_method_66 : decode cX9_method 66 = .ok (.ireturn, 1) := by decide +kernel
theorem dX9_method_67 : decode cX9_method 67 = .ok (.aload_n 0, 1) := by decide +kernel
theorem dX9_method_68 : decode cX9_method 68 = .ok (.getfield 94, 3) := by decide +kernel
theorem dX9_method_71 : decode cX9_method 71 = .ok (.bipush 64, 2) := by decide +kernel
theorem dX9_method_73 : decode cX9_method 73 = .ok (.if_icmp .ne 6, 3) := by decide +kernel
theorem dX9_method_76 : decode cX9_method 76 = .ok (.bipush (-2), 2) := by decide +kernel
theorem dX9_method_78 : decode cX9_method 78 = .ok (.ireturn, 1) := by decide +kernel
theorem dX9_method_79 : decode cX9_method 79 = .ok (.aload_n 0, 1) := by decide +kernel
theorem dX9_method_80 : decode cX9_method 80 = .ok (.getfield 94, 3) := by decide +kernel
theorem dX9_method_83 : decode cX9_method 83 = .ok (.istore 5, 2) := by decide +kernel
theorem dX9_method_85 : decode cX9_method 85 = .ok (.aload_n 0, 1) := by decide +kernel
theorem dX9_method_86 : decode cX9_method 86 = .ok (.getfield 26, 3) := by decide +kernel
theorem dX9_method_89 : decode cX9_method 89 = .ok (.iload 5, 2) := by decide +kernel
theorem dX9_method_91 : decode cX9_method 91 = .ok (.iload_n 1, 1) := by decide +kernel
theorem dX9_method_92 : decode cX9_method 92 = .ok (.iastore, 1) := by decide +kernel
theorem dX9_method_93 : decode cX9_method 93 = .ok (.aload_n 0, 1) := by decide +kernel
theorem dX9_method_94 : decode cX9_method 94 = .ok (.getfield 29, 3) := by decide +kernel
theorem dX9_method_97 : decode cX9_method 97 = .ok (.iload 5, 2) := by decide +kernel
theorem dX9_method_99 : decode cX9_method 99 = .ok (.iload_n 2, 1) := by decide +kernel
theorem dX9_method_100 : decode cX9_method 100 = .ok (.iastore, 1) := by decide +kernel
theorem dX9_method_101 : decode cX9_method 101 = .ok (.aload_n 0, 1) := by decide +kernel
theorem dX9_method_102 : decode cX9_method 102 = .ok (.getfield 32, 3) := by decide +kernel
theorem dX9_method_105 : decode cX9_method 105 = .ok (.iload 5, 2) := by decide +kernel
theorem dX9_method_107 : decode cX9_method 107 = .ok (.iload_n 3, 1) := by decide +kernel
theorem dX9_method_108 : decode cX9_method 108 = .ok (.iastore, 1) := by decide +kernel
theorem dX9_method_109 : decode cX9_method 109 = .ok (.aload_n 0, 1) := by decide +kernel
theorem dX9_method_110 : decode cX9_method 110 = .ok (.getfield 35, 3) := by decide +kernel
theorem dX9_method_113 : decode cX9_method 113 = .ok (.iload 5, 2) := by decide +kernel
theorem dX9_method_115 : decode cX9_method 115 = .ok (.iload 4, 2) := by decide +kernel
theorem dX9_method_117 : decode cX9_method 117 = .ok (.iastore, 1) := by decide +kernel
theorem dX9_method_118 : decode cX9_method 118 = .ok (.aload_n 0, 1) := by decide +kernel
theorem dX9_method_119 : decode cX9_method 119 = .ok (.getfield 38, 3) := by decide +kernel
theorem dX9_method_122 : decode cX9_method 122 = .ok (.iload 5, 2) := by decide +kernel
theorem dX9_method_124 : decode cX9_method 124 = .ok (.iconst 0, 1) := by decide +kernel
theorem dX9_method_125 : decode cX9_method 125 = .ok (.iastore, 1) := by decide +kernel
theorem dX9_method_126 : decode cX9_method 126 = .ok (.iload_n 1, 1) := by decide +kernel
theorem dX9_method_127 : decode cX9_method 127 = .ok (.ifCond .lt 31, 3) := by decide +kernel
theorem dX9_method_130 : decode cX9_method 130 = .ok (.aload_n 0, 1) := by decide +kernel
theorem dX9_method_131 : decode cX9_method 131 = .ok (.getfield 41, 3) := by decide +kernel
theorem dX9_method_134 : decode cX9_method 134 = .ok (.bipush 8, 2) := by decide +kernel
theorem dX9_method_136 : decode cX9_method 136 = .ok (.iload 5, 2) := by decide +kernel
theorem dX9_method_138 : decode cX9_method 138 = .ok (.imul, 1) := by decide +kernel
theorem dX9_method_139 : decode cX9_method 139 = .ok (.iconst 1, 1) := by decide +kernel
theorem dX9_method_140 : decode cX9_method 140 = .ok (.iload_n 1, 1) := by decide +kernel
theorem dX9_method_141 : decode cX9_method 141 = .ok (.iadd, 1) := by decide +kernel
theorem dX9_method_142 : decode cX9_method 142 = .ok (.iastore, 1) := by decide +kernel
theorem dX9_method_143 : decode cX9_method 143 = .ok (.aload_n 0, 1) := by decide +kernel
theorem dX9_method_144 : decode cX9_method 144 = .ok (.getfield 38, 3) := by decide +kernel
theorem dX9_method_147 : decode cX9_method 147 = .ok (.iload 5, 2) := by decide +kernel
theorem dX9_method_149 : decode cX9_method 149 = .ok (.iconst 1, 1) := by decide +kernel
theorem dX9_method_150 : decode cX9_method 150 = .ok (.iastore, 1) := by decide +kernel
theorem dX9_method_151 : decode cX9_method 151 = .ok (.aload_n 0, 1) := by decide +kernel
theorem dX9_method_152 : decode cX9_method 152 = .ok (.getfield 13, 3) := by decide +kernel
theorem dX9_method_155 : decode cX9_method 155 = .ok (.iload_n 1, 1) := by decide +kernel
theorem dX9_method_156 : decode cX9_method 156 = .ok (.iconst 1, 1) := by decide +kernel
theorem dX9_method_157 : decode cX9_method 157 = .ok (.bastore, 1) := by decide +kernel
theorem dX9_method_158 : decode cX9_method 158 = .ok (.aload_n 0, 1) := by decide +kernel
theorem dX9_method_159 : decode cX9_method 159 = .ok (.dup, 1) := by decide +kernel
theorem dX9_method_160 : decode cX9_method 160 = .ok (.getfield 94, 3) := by decide +kernel
theorem dX9_method_163 : decode cX9_method 163 = .ok (.iconst 1, 1) := by decide +kernel
theorem dX9_method_164 : decode cX9_method 164 = .ok (.iadd, 1) := by decide +kernel
theorem dX9_method_165 : decode cX9_method 165 = .ok (.putfield 94, 3) := by decide +kernel
theorem dX9_method_168 : decode cX9_method 168 = .ok (.iload 5, 2) := by decide +kernel
theorem dX9_method_170 : decode cX9_method 170 = .ok (.ireturn, 1) := by decide +kernel
theorem dX9_parameter_0 : decode cX9_parameter 0 = .ok (.aload_n 0, 1) := by decide +kernel
theorem dX9_parameter_1 : decode cX9_parameter 1 = .ok (.iload_n 1, 1) := by decide +kernel
theorem dX9_parameter_2 : decode cX9_parameter 2 = .ok (.invokevirtual 104, 3) := by decide +kernel
theorem dX9_parameter_5 : decode cX9_parameter 5 = .ok (.ifCond .eq 55, 3) := by decide +kernel
theorem dX9_parameter_8 : decode cX9_parameter 8 = .ok (.aload_n 0, 1) := by decide +kernel
theorem dX9_parameter_9 : decode cX9_parameter 9 = .ok (.iload_n 2, 1) := by decide +kernel
theorem dX9_parameter_10 : decode cX9_parameter 10 = .ok (.invokevirtual 101, 3) := by decide +kernel
theorem dX9_parameter_13 : decode cX9_parameter 13 = .ok (.ifCond .eq 47, 3) := by decide +kernel
theorem dX9_parameter_16 : decode cX9_parameter 16 = .ok (.aload_n 0, 1) := by decide +kernel
theorem dX9_parameter_17 : decode cX9_parameter 17 = .ok (.getfield 38, 3) := by decide +kernel
theorem dX9_parameter_20 : decode cX9_parameter 20 = .ok (.iload_n 1, 1) := by decide +kernel
theorem dX9_parameter_21 : decode cX9_parameter 21 = .ok (.iaload, 1) := by decide +kernel
theorem dX9_parameter_22 : decode cX9_parameter 22 = .ok (.aload_n 0, 1) := by decide +kernel
theorem dX9_parameter_23 : decode cX9_parameter 23 = .ok (.getfield 32, 3) := by decide +kernel
theorem dX9_parameter_26 : decode cX9_parameter 26 = .ok (.iload_n 1, 1) := by decide +kernel
theorem dX9_parameter_27 : decode cX9_parameter 27 = .ok (.iaload, 1) := by decide +kernel
theorem dX9_parameter_28 : decode cX9_parameter 28 = .ok (.if_icmp .ge 32, 3) := by decide +kernel
theorem dX9_parameter_31 : decode cX9_parameter 31 = .ok (.aload_n 0, 1) := by decide +kernel
theorem dX9_parameter_32 : decode cX9_parameter 32 = .ok (.getfield 38, 3) := by decide +kernel
theorem dX9_parameter_35 : decode cX9_parameter 35 = .ok (.iload_n 1, 1) := by decide +kernel
theorem dX9_parameter_36 : decode cX9_parameter 36 = .ok (.iaload, 1) := by decide +kernel
theorem dX9_parameter_37 : decode cX9_parameter 37 = .ok (.bipush 8, 2) := by decide +kernel
theorem dX9_parameter_39 : decode cX9_parameter 39 = .ok (.if_icmp .eq 21, 3) := by decide +kernel
theorem dX9_parameter_42 : decode cX9_parameter 42 = .ok (.aload_n 0, 1) := by decide +kernel
theorem dX9_parameter_43 : decode cX9_parameter 43 = .ok (.getfield 47, 3) := by decide +kernel
theorem dX9_parameter_46 : decode cX9_parameter 46 = .ok (.iload_n 1, 1) := by decide +kernel
theorem dX9_parameter_47 : decode cX9_parameter 47 = .ok (.iaload, 1) := by decide +kernel
theorem dX9_parameter_48 : decode cX9_parameter 48 = .ok (.ifCond .gt 12, 3) := by decide +kernel
theorem dX9_parameter_51 : decode cX9_parameter 51 = .ok (.aload_n 0, 1) := by decide +kernel
theorem dX9_parameter_52 : decode cX9_parameter 52 = .ok (.getfield 44, 3) := by decide +kernel
theorem dX9_parameter_55 : decode cX9_parameter 55 = .ok (.iload_n 1, 1) := by decide +kernel
theorem dX9_parameter_56 : decode cX9_parameter 56 = .ok (.baload, 1) := by decide +kernel
theorem dX9_parameter_57 : decode cX9_parameter 57 = .ok (.ifCond .eq 5, 3) := by decide +kernel
theorem dX9_parameter_60 : decode cX9_parameter 60 = .ok (.iconst (-1), 1) := by decide +kernel
theorem dX9_parameter_61 : decode cX9_parameter 61 = .ok (.ireturn, 1) := by decide +kernel
theorem dX9_parameter_62 : decode cX9_parameter 62 = .ok (.aload_n 0, 1) := by decide +kernel
theorem dX9_parameter_63 : decode cX9_parameter 63 = .ok (.getfield 41, 3) := by decide +kernel
theorem dX9_parameter_66 : decode cX9_parameter 66 = .ok (.bipush 8, 2) := by decide +kernel
theorem dX9_parameter_68 : decode cX9_parameter 68 = .ok (.iload_n 1, 1) := by decide +kernel
theorem dX9_parameter_69 : decode cX9_parameter 69 = .ok (.imul, 1) := by decide +kernel
theorem dX9_parameter_70 : decode cX9_parameter 70 = .ok (.aload_n 0, 1) := by decide +kernel
theorem dX9_parameter_71 : decode cX9_parameter 71 = .ok (.getfield 38, 3) := by decide +kernel
theorem dX9_parameter_74 : decode cX9_parameter 74 = .ok (.iload_n 1, 1) := by decide +kernel
theorem dX9_parameter_75 : decode cX9_parameter 75 = .ok (.iaload, 1) := by decide +kernel
theorem dX9_parameter_76 : decode cX9_parameter 76 = .ok (.iadd, 1) := by decide +kernel
theorem dX9_parameter_77 : decode cX9_parameter 77 = .ok (.iload_n 2, 1) := by decide +kernel
theorem dX9_parameter_78 : decode cX9_parameter 78 = .ok (.iastore, 1) := by decide +kernel
theorem dX9_parameter_79 : decode cX9_parameter 79 = .ok (.aload_n 0, 1) := by decide +kernel
theorem dX9_parameter_80 : decode cX9_parameter 80 = .ok (.getfield 38, 3) := by decide +kernel
theorem dX9_parameter_83 : decode cX9_parameter 83 = .ok (.iload_n 1, 1) := by decide +kernel
theorem dX9_parameter_84 : decode cX9_parameter 84 = .ok (.dup2, 1) := by decide +kernel
theorem dX9_parameter_85 : decode cX9_parameter 85 = .ok (.iaload, 1) := by decide +kernel
theorem dX9_parameter_86 : decode cX9_parameter 86 = .ok (.iconst 1, 1) := by decide +kernel
theorem dX9_parameter_87 : decode cX9_parameter 87 = .ok (.iadd, 1) := by decide +kernel
theorem dX9_parameter_88 : decode cX9_parameter 88 = .ok (.iastore, 1) := by decide +kernel
theorem dX9_parameter_89 : decode cX9_parameter 89 = .ok (.aload_n 0, 1) := by decide +kernel
theorem dX9_parameter_90 : decode cX9_parameter 90 = .ok (.getfield 74, 3) := by decide +kernel
theorem dX9_parameter_93 : decode cX9_parameter 93 = .ok (.iload_n 1, 1) := by decide +kernel
theorem dX9_parameter_94 : decode cX9_parameter 94 = .ok (.iconst 0, 1) := by decide +kernel
theorem dX9_parameter_95 : decode cX9_parameter 95 = .ok (.bastore, 1) := by decide +kernel
theorem dX9_parameter_96 : decode cX9_parameter 96 = .ok (.aload_n 0, 1) := by decide +kernel
theorem dX9_parameter_97 : decode cX9_parameter 97 = .ok (.getfield 38, 3) := by decide +kernel
theorem dX9_parameter_100 : decode cX9_parameter 100 = .ok (.iload_n 1, 1) := by decide +kernel
theorem dX9_parameter_101 : decode cX9_parameter 101 = .ok (.iaload, 1) := by decide +kernel
theorem dX9_parameter_102 : decode cX9_parameter 102 = .ok (.ireturn, 1) := by decide +kernel
theorem dX9_isLike_0 : decode cX9_isLike 0 = .ok (.aload_n 0, 1) := by decide +kernel
theorem dX9_isLike_1 : decode cX9_isLike 1 = .ok (.getfield 38, 3) := by decide +kernel
theorem dX9_isLike_4 : decode cX9_isLike 4 = .ok (.iload_n 1, 1) := by decide +kernel
theorem dX9_isLike_5 : decode cX9_isLike 5 = .ok (.iaload, 1) := by decide +kernel
theorem dX9_isLike_6 : decode cX9_isLike 6 = .ok (.aload_n 0, 1) := by decide +kernel
theorem dX9_isLike_7 : decode cX9_isLike 7 = .ok (.getfield 38, 3) := by decide +kernel
theorem dX9_isLike_10 : decode cX9_isLike 10 = .ok (.iload_n 2, 1) := by decide +kernel
theorem dX9_isLike_11 : decode cX9_isLike 11 = .ok (.iaload, 1) := by decide +kernel
theorem dX9_isLike_12 : decode cX9_isLike 12 = .ok (.if_icmp .ne 22, 3) := by decide +kernel
theorem dX9_isLike_15 : decode cX9_isLike 15 = .ok (.aload_n 0, 1) := by decide +kernel
theorem dX9_isLike_16 : decode cX9_isLike 16 = .ok (.getfield 29, 3) := by decide +kernel
theorem dX9_isLike_19 : decode cX9_isLike 19 = .ok (.iload_n 1, 1) := by decide +kernel
theorem dX9_isLike_20 : decode cX9_isLike 20 = .ok (.iaload, 1) := by decide +kernel
theorem dX9_isLike_21 : decode cX9_isLike 21 = .ok (.aload_n 0, 1) := by decide +kernel
theorem dX9_isLike_22 : decode cX9_isLike 22 = .ok (.getfield 29, 3) := by decide +kernel
theorem dX9_isLike_25 : decode cX9_isLike 25 = .ok (.iload_n 2, 1) := by decide +kernel
theorem dX9_isLike_26 : decode cX9_isLike 26 = .ok (.iaload, 1) := by decide +kernel
theorem dX9_isLike_27 : decode cX9_isLike 27 = .ok (.if_icmp .ne 7, 3) := by decide +kernel
theorem dX9_isLike_30 : decode cX9_isLike 30 = .ok (.iconst 1, 1) := by decide +kernel
theorem dX9_isLike_31 : decode cX9_isLike 31 = .ok (.goto 4, 3) := by decide +kernel
theorem dX9_isLike_34 : decode cX9_isLike 34 = .ok (.iconst 0, 1) := by decide +kernel
theorem dX9_isLike_35 : decode cX9_isLike 35 = .ok (.istore_n 3, 1) := by decide +kernel
theorem dX9_isLike_36 : decode cX9_isLike 36 = .ok (.iconst 1, 1) := by decide +kernel
theorem dX9_isLike_37 : decode cX9_isLike 37 = .ok (.istore 4, 2) := by decide +kernel
theorem dX9_isLike_39 : decode cX9_isLike 39 = .ok (.iload 4, 2) := by decide +kernel
theorem dX9_isLike_41 : decode cX9_isLike 41 = .ok (.aload_n 0, 1) := by decide +kernel
theorem dX9_isLike_42 : decode cX9_isLike 42 = .ok (.getfield 38, 3) := by decide +kernel
theorem dX9_isLike_45 : decode cX9_isLike 45 = .ok (.iload_n 1, 1) := by decide +kernel
theorem dX9_isLike_46 : decode cX9_isLike 46 = .ok (.iaload, 1) := by decide +kernel
theorem dX9_isLike_47 : decode cX9_isLike 47 = .ok (.if_icmp .ge 46, 3) := by decide +kernel
theorem dX9_isLike_50 : decode cX9_isLike 50 = .ok (.iload_n 3, 1) := by decide +kernel
theorem dX9_isLike_51 : decode cX9_isLike 51 = .ok (.ifCond .eq 42, 3) := by decide +kernel
theorem dX9_isLike_54 : decode cX9_isLike 54 = .ok (.aload_n 0, 1) := by decide +kernel
theorem dX9_isLike_55 : decode cX9_isLike 55 = .ok (.getfield 41, 3) := by decide +kernel
theorem dX9_isLike_58 : decode cX9_isLike 58 = .ok (.bipush 8, 2) := by decide +kernel
theorem dX9_isLike_60 : decode cX9_isLike 60 = .ok (.iload_n 1, 1) := by decide +kernel
theorem dX9_isLike_61 : decode cX9_isLike 61 = .ok (.imul, 1) := by decide +kernel
theorem dX9_isLike_62 : decode cX9_isLike 62 = .ok (.iload 4, 2) := by decide +kernel
theorem dX9_isLike_64 : decode cX9_isLike 64 = .ok (.iadd, 1) := by decide +kernel
theorem dX9_isLike_65 : decode cX9_isLike 65 = .ok (.iaload, 1) := by decide +kernel
theorem dX9_isLike_66 : decode cX9_isLike 66 = .ok (.aload_n 0, 1) := by decide +kernel
theorem dX9_isLike_67 : decode cX9_isLike 67 = .ok (.getfield 41, 3) := by decide +kernel
theorem dX9_isLike_70 : decode cX9_isLike 70 = .ok (.bipush 8, 2) := by decide +kernel
theorem dX9_isLike_72 : decode cX9_isLike 72 = .ok (.iload_n 2, 1) := by decide +kernel
theorem dX9_isLike_73 : decode cX9_isLike 73 = .ok (.imul, 1) := by decide +kernel
theorem dX9_isLike_74 : decode cX9_isLike 74 = .ok (.iload 4, 2) := by decide +kernel
theorem dX9_isLike_76 : decode cX9_isLike 76 = .ok (.iadd, 1) := by decide +kernel
theorem dX9_isLike_77 : decode cX9_isLike 77 = .ok (.iaload, 1) := by decide +kernel
theorem dX9_isLike_78 : decode cX9_isLike 78 = .ok (.if_icmp .ne 7, 3) := by decide +kernel
theorem dX9_isLike_81 : decode cX9_isLike 81 = .ok (.iconst 1, 1) := by decide +kernel
theorem dX9_isLike_82 : decode cX9_isLike 82 = .ok (.goto 4, 3) := by decide +kernel
theorem dX9_isLike_85 : decode cX9_isLike 85 = .ok (.iconst 0, 1) := by decide +kernel
theorem dX9_isLike_86 : decode cX9_isLike 86 = .ok (.istore_n 3, 1) := by decide +kernel
theorem dX9_isLike_87 : decode cX9_isLike 87 = .ok (.iinc 4 1, 3) := by decide +kernel
theorem dX9_isLike_90 : decode cX9_isLike 90 = .ok (.goto (-51), 3) := by decide +kernel
theorem dX9_isLike_93 : decode cX9_isLike 93 = .ok (.iload_n 3, 1) := by decide +kernel
theorem dX9_isLike_94 : decode cX9_isLike 94 = .ok (.ireturn, 1) := by decide +kernel
theorem dX9_slot_0 : decode cX9_slot 0 = .ok (.aload_n 0, 1) := by decide +kernel
theorem dX9_slot_1 : decode cX9_slot 1 = .ok (.iload_n 1, 1) := by decide +kernel
theorem dX9_slot_2 : decode cX9_slot 2 = .ok (.invokevirtual 104, 3) := by decide +kernel
theorem dX9_slot_5 : decode cX9_slot 5 = .ok (.ifCond .eq 22, 3) := by decide +kernel
theorem dX9_slot_8 : decode cX9_slot 8 = .ok (.iload_n 2, 1) := by decide +kernel
theorem dX9_slot_9 : decode cX9_slot 9 = .ok (.ifCond .lt 18, 3) := by decide +kernel
theorem dX9_slot_12 : decode cX9_slot 12 = .ok (.iload_n 2, 1) := by decide +kernel
theorem dX9_slot_13 : decode cX9_slot 13 = .ok (.bipush 16, 2) := by decide +kernel
theorem dX9_slot_15 : decode cX9_slot 15 = .ok (.if_icmp .ge 12, 3) := by decide +kernel
theorem dX9_slot_18 : decode cX9_slot 18 = .ok (.aload_n 0, 1) := by decide +kernel
theorem dX9_slot_19 : decode cX9_slot 19 = .ok (.getfield 26, 3) := by decide +kernel
theorem dX9_slot_22 : decode cX9_slot 22 = .ok (.iload_n 1, 1) := by decide +kernel
theorem dX9_slot_23 : decode cX9_slot 23 = .ok (.iaload, 1) := by decide +kernel
theorem dX9_slot_24 : decode cX9_slot 24 = .ok (.ifCond .ge 5, 3) := by decide +kernel
theorem dX9_slot_27 : decode cX9_slot 27 = .ok (.iconst 0, 1) := by decide +kernel
theorem dX9_slot_28 : decode cX9_slot 28 = .ok (.ireturn, 1) := by decide +kernel
theorem dX9_slot_29 : decode cX9_slot 29 = .ok (.aload_n 0, 1) := by decide +kernel
theorem dX9_slot_30 : decode cX9_slot 30 = .ok (.getfield 26, 3) := by decide +kernel
theorem dX9_slot_33 : decode cX9_slot 33 = .ok (.iload_n 1, 1) := by decide +kernel
theorem dX9_slot_34 : decode cX9_slot 34 = .ok (.iaload, 1) := by decide +kernel
theorem dX9_slot_35 : decode cX9_slot 35 = .ok (.istore_n 3, 1) := by decide +kernel
theorem dX9_slot_36 : decode cX9_slot 36 = .ok (.iconst 0, 1) := by decide +kernel
theorem dX9_slot_37 : decode cX9_slot 37 = .ok (.istore 4, 2) := by decide +kernel
theorem dX9_slot_39 : decode cX9_slot 39 = .ok (.iload 4, 2) := by decide +kernel
theorem dX9_slot_41 : decode cX9_slot 41 = .ok (.aload_n 0, 1) := by decide +kernel
theorem dX9_slot_42 : decode cX9_slot 42 = .ok (.getfield 90, 3) := by decide +kernel
theorem dX9_slot_45 : decode cX9_slot 45 = .ok (.if_icmp .ge 22, 3) := by decide +kernel
theorem dX9_slot_48 : decode cX9_slot 48 = .ok (.aload_n 0, 1) := by decide +kernel
theorem dX9_slot_49 : decode cX9_slot 49 = .ok (.getfield 9, 3) := by decide +kernel
theorem dX9_slot_52 : decode cX9_slot 52 = .ok (.iload 4, 2) := by decide +kernel
theorem dX9_slot_54 : decode cX9_slot 54 = .ok (.iaload, 1) := by decide +kernel
theorem dX9_slot_55 : decode cX9_slot 55 = .ok (.iload_n 3, 1) := by decide +kernel
theorem dX9_slot_56 : decode cX9_slot 56 = .ok (.if_icmp .ne 5, 3) := by decide +kernel
theorem dX9_slot_59 : decode cX9_slot 59 = .ok (.iconst 0, 1) := by decide +kernel
theorem dX9_slot_60 : decode cX9_slot 60 = .ok (.ireturn, 1) := by decide +kernel
theorem dX9_slot_61 : decode cX9_slot 61 = .ok (.iinc 4 1, 3) := by decide +kernel
theorem dX9_slot_64 : decode cX9_slot 64 = .ok (.goto (-25), 3) := by decide +kernel
theorem dX9_slot_67 : decode cX9_slot 67 = .ok (.aload_n 0, 1) := by decide +kernel
theorem dX9_slot_68 : decode cX9_slot 68 = .ok (.getfield 23, 3) := by decide +kernel
theorem dX9_slot_71 : decode cX9_slot 71 = .ok (.bipush 16, 2) := by decide +kernel
theorem dX9_slot_73 : decode cX9_slot 73 = .ok (.iload_n 3, 1) := by decide +kernel
theorem dX9_slot_74 : decode cX9_slot 74 = .ok (.imul, 1) := by decide +kernel
theorem dX9_slot_75 : decode cX9_slot 75 = .ok (.iload_n 2, 1) := by decide +kernel
theorem dX9_slot_76 : decode cX9_slot 76 = .ok (.iadd, 1) := by decide +kernel
theorem dX9_slot_77 : decode cX9_slot 77 = .ok (.iaload, 1) := by decide +kernel
theorem dX9_slot_78 : decode cX9_slot 78 = .ok (.istore 4, 2) := by decide +kernel
theorem dX9_slot_80 : decode cX9_slot 80 = .ok (.iload 4, 2) := by decide +kernel
theorem dX9_slot_82 : decode cX9_slot 82 = .ok (.ifCond .lt 15, 3) := by decide +kernel
theorem dX9_slot_85 : decode cX9_slot 85 = .ok (.aload_n 0, 1) := by decide +kernel
theorem dX9_slot_86 : decode cX9_slot 86 = .ok (.iload_n 1, 1) := by decide +kernel
theorem dX9_slot_87 : decode cX9_slot 87 = .ok (.iload 4, 2) := by decide +kernel
theorem dX9_slot_89 : decode cX9_slot 89 = .ok (.invokevirtual 107, 3) := by decide +kernel
theorem dX9_slot_92 : decode cX9_slot 92 = .ok (.ifCond .ne 5, 3) := by decide +kernel
theorem dX9_slot_95 : decode cX9_slot 95 = .ok (.iconst 0, 1) := by decide +kernel
theorem dX9_slot_96 : decode cX9_slot 96 = .ok (.ireturn, 1) := by decide +kernel
theorem dX9_slot_97 : decode cX9_slot 97 = .ok (.aload_n 0, 1) := by decide +kernel
theorem dX9_slot_98 : decode cX9_slot 98 = .ok (.getfield 23, 3) := by decide +kernel
theorem dX9_slot_101 : decode cX9_slot 101 = .ok (.bipush 16, 2) := by decide +kernel
theorem dX9_slot_103 : decode cX9_slot 103 = .ok (.iload_n 3, 1) := by decide +kernel
theorem dX9_slot_104 : decode cX9_slot 104 = .ok (.imul, 1) := by decide +kernel
theorem dX9_slot_105 : decode cX9_slot 105 = .ok (.iload_n 2, 1) := by decide +kernel
theorem dX9_slot_106 : decode cX9_slot 106 = .ok (.iadd, 1) := by decide +kernel
theorem dX9_slot_107 : decode cX9_slot 107 = .ok (.iload_n 1, 1) := by decide +kernel
theorem dX9_slot_108 : decode cX9_slot 108 = .ok (.iastore, 1) := by decide +kernel
theorem dX9_slot_109 : decode cX9_slot 109 = .ok (.aload_n 0, 1) := by decide +kernel
theorem dX9_slot_110 : decode cX9_slot 110 = .ok (.getfield 44, 3) := by decide +kernel
theorem dX9_slot_113 : decode cX9_slot 113 = .ok (.iload_n 1, 1) := by decide +kernel
theorem dX9_slot_114 : decode cX9_slot 114 = .ok (.iconst 1, 1) := by decide +kernel
theorem dX9_slot_115 : decode cX9_slot 115 = .ok (.bastore, 1) := by decide +kernel
theorem dX9_slot_116 : decode cX9_slot 116 = .ok (.iconst 1, 1) := by decide +kernel
theorem dX9_slot_117 : decode cX9_slot 117 = .ok (.ireturn, 1) := by decide +kernel
theorem dX9_isGood_0 : decode cX9_isGood 0 = .ok (.iload_n 2, 1) := by decide +kernel
theorem dX9_isGood_1 : decode cX9_isGood 1 = .ok (.tableswitch 276 2 36 #[155, 155, 276, 276, 276, 276, 276, 276, 276, 276, 276, 276, 276, 276, 276, 276, 276, 276, 276, 276, 276, 276, 276, 276, 175, 181, 181, 175, 175, 211, 276, 276, 276, 229, 235], 155) := by decide +kernel
theorem dX9_isGood_156 : decode cX9_isGood 156 = .ok (.iload_n 3, 1) := by decide +kernel
theorem dX9_isGood_157 : decode cX9_isGood 157 = .ok (.ifCond .lt 17, 3) := by decide +kernel
theorem dX9_isGood_160 : decode cX9_isGood 160 = .ok (.iload_n 3, 1) := by decide +kernel
theorem dX9_isGood_161 : decode cX9_isGood 161 = .ok (.aload_n 0, 1) := by decide +kernel
theorem dX9_isGood_162 : decode cX9_isGood 162 = .ok (.getfield 32, 3) := by decide +kernel
theorem dX9_isGood_165 : decode cX9_isGood 165 = .ok (.iload_n 1, 1) := by decide +kernel
theorem dX9_isGood_166 : decode cX9_isGood 166 = .ok (.iaload, 1) := by decide +kernel
theorem dX9_isGood_167 : decode cX9_isGood 167 = .ok (.if_icmp .ge 7, 3) := by decide +kernel
theorem dX9_isGood_170 : decode cX9_isGood 170 = .ok (.iconst 1, 1) := by decide +kernel
theorem dX9_isGood_171 : decode cX9_isGood 171 = .ok (.goto 4, 3) := by decide +kernel
theorem dX9_isGood_174 : decode cX9_isGood 174 = .ok (.iconst 0, 1) := by decide +kernel
theorem dX9_isGood_175 : decode cX9_isGood 175 = .ok (.ireturn, 1) := by decide +kernel
theorem dX9_isGood_176 : decode cX9_isGood 176 = .ok (.aload_n 0, 1) := by decide +kernel
theorem dX9_isGood_177 : decode cX9_isGood 177 = .ok (.iload_n 3, 1) := by decide +kernel
theorem dX9_isGood_178 : decode cX9_isGood 178 = .ok (.invokevirtual 97, 3) := by decide +kernel
theorem dX9_isGood_181 : decode cX9_isGood 181 = .ok (.ireturn, 1) := by decide +kernel
theorem dX9_isGood_182 : decode cX9_isGood 182 = .ok (.aload_n 0, 1) := by decide +kernel
theorem dX9_isGood_183 : decode cX9_isGood 183 = .ok (.iload_n 3, 1) := by decide +kernel
theorem dX9_isGood_184 : decode cX9_isGood 184 = .ok (.invokevirtual 97, 3) := by decide +kernel
theorem dX9_isGood_187 : decode cX9_isGood 187 = .ok (.ifCond .eq 23, 3) := by decide +kernel
theorem dX9_isGood_190 : decode cX9_isGood 190 = .ok (.iload 4, 2) := by decide +kernel
theorem dX9_isGood_192 : decode cX9_isGood 192 = .ok (.ifCond .lt 18, 3) := by decide +kernel
theorem dX9_isGood_195 : decode cX9_isGood 195 = .ok (.iload 4, 2) := by decide +kernel
theorem dX9_isGood_197 : decode cX9_isGood 197 = .ok (.aload_n 0, 1) := by decide +kernel
theorem dX9_isGood_198 : decode cX9_isGood 198 = .ok (.getfield 17, 3) := by decide +kernel
theorem dX9_isGood_201 : decode cX9_isGood 201 = .ok (.iload_n 3, 1) := by decide +kernel
theorem dX9_isGood_202 : decode cX9_isGood 202 = .ok (.iaload, 1) := by decide +kernel
theorem dX9_isGood_203 : decode cX9_isGood 203 = .ok (.if_icmp .ge 7, 3) := by decide +kernel
theorem dX9_isGood_206 : decode cX9_isGood 206 = .ok (.iconst 1, 1) := by decide +kernel
theorem dX9_isGood_207 : decode cX9_isGood 207 = .ok (.goto 4, 3) := by decide +kernel
theorem dX9_isGood_210 : decode cX9_isGood 210 = .ok (.iconst 0, 1) := by decide +kernel
theorem dX9_isGood_211 : decode cX9_isGood 211 = .ok (.ireturn, 1) := by decide +kernel
theorem dX9_isGood_212 : decode cX9_isGood 212 = .ok (.iload_n 3, 1) := by decide +kernel
theorem dX9_isGood_213 : decode cX9_isGood 213 = .ok (.ifCond .lt 15, 3) := by decide +kernel
theorem dX9_isGood_216 : decode cX9_isGood 216 = .ok (.iload_n 3, 1) := by decide +kernel
theorem dX9_isGood_217 : decode cX9_isGood 217 = .ok (.aload_n 0, 1) := by decide +kernel
theorem dX9_isGood_218 : decode cX9_isGood 218 = .ok (.getfield 90, 3) := by decide +kernel
theorem dX9_isGood_221 : decode cX9_isGood 221 = .ok (.if_icmp .gt 7, 3) := by decide +kernel
theorem dX9_isGood_224 : decode cX9_isGood 224 = .ok (.iconst 1, 1) := by decide +kernel
theorem dX9_isGood_225 : decode cX9_isGood 225 = .ok (.goto 4, 3) := by decide +kernel
theorem dX9_isGood_228 : decode cX9_isGood 228 = .ok (.iconst 0, 1) := by decide +kernel
theorem dX9_isGood_229 : decode cX9_isGood 229 = .ok (.ireturn, 1) := by decide +kernel
theorem dX9_isGood_230 : decode cX9_isGood 230 = .ok (.aload_n 0, 1) := by decide +kernel
theorem dX9_isGood_231 : decode cX9_isGood 231 = .ok (.iload_n 3, 1) := by decide +kernel
theorem dX9_isGood_232 : decode cX9_isGood 232 = .ok (.invokevirtual 104, 3) := by decide +kernel
theorem dX9_isGood_235 : decode cX9_isGood 235 = .ok (.ireturn, 1) := by decide +kernel
theorem dX9_isGood_236 : decode cX9_isGood 236 = .ok (.aload_n 0, 1) := by decide +kernel
theorem dX9_isGood_237 : decode cX9_isGood 237 = .ok (.iload_n 3, 1) := by decide +kernel
theorem dX9_isGood_238 : decode cX9_isGood 238 = .ok (.invokevirtual 97, 3) := by decide +kernel
theorem dX9_isGood_241 : decode cX9_isGood 241 = .ok (.ifCond .eq 34, 3) := by decide +kernel
theorem dX9_isGood_244 : decode cX9_isGood 244 = .ok (.iload 4, 2) := by decide +kernel
theorem dX9_isGood_246 : decode cX9_isGood 246 = .ok (.ifCond .lt 29, 3) := by decide +kernel
theorem dX9_isGood_249 : decode cX9_isGood 249 = .ok (.iload 4, 2) := by decide +kernel
theorem dX9_isGood_251 : decode cX9_isGood 251 = .ok (.bipush 16, 2) := by decide +kernel
theorem dX9_isGood_253 : decode cX9_isGood 253 = .ok (.if_icmp .ge 22, 3) := by decide +kernel
theorem dX9_isGood_256 : decode cX9_isGood 256 = .ok (.aload_n 0, 1) := by decide +kernel
theorem dX9_isGood_257 : decode cX9_isGood 257 = .ok (.getfield 23, 3) := by decide +kernel
theorem dX9_isGood_260 : decode cX9_isGood 260 = .ok (.bipush 16, 2) := by decide +kernel
theorem dX9_isGood_262 : decode cX9_isGood 262 = .ok (.iload_n 3, 1) := by decide +kernel
theorem dX9_isGood_263 : decode cX9_isGood 263 = .ok (.imul, 1) := by decide +kernel
theorem dX9_isGood_264 : decode cX9_isGood 264 = .ok (.iload 4, 2) := by decide +kernel
theorem dX9_isGood_266 : decode cX9_isGood 266 = .ok (.iadd, 1) := by decide +kernel
theorem dX9_isGood_267 : decode cX9_isGood 267 = .ok (.iaload, 1) := by decide +kernel
theorem dX9_isGood_268 : decode cX9_isGood 268 = .ok (.ifCond .lt 7, 3) := by decide +kernel
theorem dX9_isGood_271 : decode cX9_isGood 271 = .ok (.iconst 1, 1) := by decide +kernel
theorem dX9_isGood_272 : decode cX9_isGood 272 = .ok (.goto 4, 3) := by decide +kernel
theorem dX9_isGood_275 : decode cX9_isGood 275 = .ok (.iconst 0, 1) := by decide +kernel
theorem dX9_isGood_276 : decode cX9_isGood 276 = .ok (.ireturn, 1) := by decide +kernel
theorem dX9_isGood_277 : decode cX9_isGood 277 = .ok (.iload_n 2, 1) := by decide +kernel
theorem dX9_isGood_278 : decode cX9_isGood 278 = .ok (.bipush 19, 2) := by decide +kernel
theorem dX9_isGood_280 : decode cX9_isGood 280 = .ok (.if_icmp .lt 20, 3) := by decide +kernel
theorem dX9_isGood_283 : decode cX9_isGood 283 = .ok (.iload_n 2, 1) := by decide +kernel
theorem dX9_isGood_284 : decode cX9_isGood 284 = .ok (.bipush 25, 2) := by decide +kernel
theorem dX9_isGood_286 : decode cX9_isGood 286 = .ok (.if_icmp .gt 14, 3) := by decide +kernel
theorem dX9_isGood_289 : decode cX9_isGood 289 = .ok (.iload_n 3, 1) := by decide +kernel
theorem dX9_isGood_290 : decode cX9_isGood 290 = .ok (.ifCond .lt 14, 3) := by decide +kernel
theorem dX9_isGood_293 : decode cX9_isGood 293 = .ok (.iload_n 3, 1) := by decide +kernel
theorem dX9_isGood_294 : decode cX9_isGood 294 = .ok (.sipush 200, 3) := by decide +kernel
theorem dX9_isGood_297 : decode cX9_isGood 297 = .ok (.if_icmp .ge 7, 3) := by decide +kernel
theorem dX9_isGood_300 : decode cX9_isGood 300 = .ok (.iconst 1, 1) := by decide +kernel
theorem dX9_isGood_301 : decode cX9_isGood 301 = .ok (.goto 4, 3) := by decide +kernel
theorem dX9_isGood_304 : decode cX9_isGood 304 = .ok (.iconst 0, 1) := by decide +kernel
theorem dX9_isGood_305 : decode cX9_isGood 305 = .ok (.ireturn, 1) := by decide +kernel
theorem dX9_op_0 : decode cX9_op 0 = .ok (.aload_n 0, 1) := by decide +kernel
theorem dX9_op_1 : decode cX9_op 1 = .ok (.iload_n 1, 1) := by decide +kernel
theorem dX9_op_2 : decode cX9_op 2 = .ok (.invokevirtual 104, 3) := by decide +kernel
theorem dX9_op_5 : decode cX9_op 5 = .ok (.ifCond .eq 25, 3) := by decide +kernel
theorem dX9_op_8 : decode cX9_op 8 = .ok (.iload_n 2, 1) := by decide +kernel
theorem dX9_op_9 : decode cX9_op 9 = .ok (.ifCond .lt 21, 3) := by decide +kernel
theorem dX9_op_12 : decode cX9_op 12 = .ok (.iload_n 2, 1) := by decide +kernel
theorem dX9_op_13 : decode cX9_op 13 = .ok (.bipush 41, 2) := by decide +kernel
theorem dX9_op_15 : decode cX9_op 15 = .ok (.if_icmp .gt 15, 3) := by decide +kernel
theorem dX9_op_18 : decode cX9_op 18 = .ok (.aload_n 0, 1) := by decide +kernel
theorem dX9_op_19 : decode cX9_op 19 = .ok (.iload_n 1, 1) := by decide +kernel
theorem dX9_op_20 : decode cX9_op 20 = .ok (.iload_n 2, 1) := by decide +kernel
theorem dX9_op_21 : decode cX9_op 21 = .ok (.iload_n 3, 1) := by decide +kernel
theorem dX9_op_22 : decode cX9_op 22 = .ok (.iload 4, 2) := by decide +kernel
theorem dX9_op_24 : decode cX9_op 24 = .ok (.invokevirtual 111, 3) := by decide +kernel
theorem dX9_op_27 : decode cX9_op 27 = .ok (.ifCond .ne 5, 3) := by decide +kernel
theorem dX9_op_30 : decode cX9_op 30 = .ok (.iconst (-1), 1) := by decide +kernel
theorem dX9_op_31 : decode cX9_op 31 = .ok (.ireturn, 1) := by decide +kernel
theorem dX9_op_32 : decode cX9_op 32 = .ok (.aload_n 0, 1) := by decide +kernel
theorem dX9_op_33 : decode cX9_op 33 = .ok (.getfield 47, 3) := by decide +kernel
theorem dX9_op_36 : decode cX9_op 36 = .ok (.iload_n 1, 1) := by decide +kernel
theorem dX9_op_37 : decode cX9_op 37 = .ok (.iaload, 1) := by decide +kernel
theorem dX9_op_38 : decode cX9_op 38 = .ok (.sipush 200, 3) := by decide +kernel
theorem dX9_op_41 : decode cX9_op 41 = .ok (.if_icmp .ne 6, 3) := by decide +kernel
theorem dX9_op_44 : decode cX9_op 44 = .ok (.bipush (-2), 2) := by decide +kernel
theorem dX9_op_46 : decode cX9_op 46 = .ok (.ireturn, 1) := by decide +kernel
theorem dX9_op_47 : decode cX9_op 47 = .ok (.sipush 200, 3) := by decide +kernel
theorem dX9_op_50 : decode cX9_op 50 = .ok (.iload_n 1, 1) := by decide +kernel
theorem dX9_op_51 : decode cX9_op 51 = .ok (.imul, 1) := by decide +kernel
theorem dX9_op_52 : decode cX9_op 52 = .ok (.aload_n 0, 1) := by decide +kernel
theorem dX9_op_53 : decode cX9_op 53 = .ok (.getfield 47, 3) := by decide +kernel
theorem dX9_op_56 : decode cX9_op 56 = .ok (.iload_n 1, 1) := by decide +kernel
theorem dX9_op_57 : decode cX9_op 57 = .ok (.iaload, 1) := by decide +kernel
theorem dX9_op_58 : decode cX9_op 58 = .ok (.iadd, 1) := by decide +kernel
theorem dX9_op_59 : decode cX9_op 59 = .ok (.istore 5, 2) := by decide +kernel
theorem dX9_op_61 : decode cX9_op 61 = .ok (.aload_n 0, 1) := by decide +kernel
theorem dX9_op_62 : decode cX9_op 62 = .ok (.getfield 50, 3) := by decide +kernel
theorem dX9_op_65 : decode cX9_op 65 = .ok (.iload 5, 2) := by decide +kernel
theorem dX9_op_67 : decode cX9_op 67 = .ok (.iload_n 2, 1) := by decide +kernel
theorem dX9_op_68 : decode cX9_op 68 = .ok (.iastore, 1) := by decide +kernel
theorem dX9_op_69 : decode cX9_op 69 = .ok (.aload_n 0, 1) := by decide +kernel
theorem dX9_op_70 : decode cX9_op 70 = .ok (.getfield 53, 3) := by decide +kernel
theorem dX9_op_73 : decode cX9_op 73 = .ok (.iload 5, 2) := by decide +kernel
theorem dX9_op_75 : decode cX9_op 75 = .ok (.iload_n 3, 1) := by decide +kernel
theorem dX9_op_76 : decode cX9_op 76 = .ok (.iastore, 1) := by decide +kernel
theorem dX9_op_77 : decode cX9_op 77 = .ok (.aload_n 0, 1) := by decide +kernel
theorem dX9_op_78 : decode cX9_op 78 = .ok (.getfield 56, 3) := by decide +kernel
theorem dX9_op_81 : decode cX9_op 81 = .ok (.iload 5, 2) := by decide +kernel
theorem dX9_op_83 : decode cX9_op 83 = .ok (.iload 4, 2) := by decide +kernel
theorem dX9_op_85 : decode cX9_op 85 = .ok (.iastore, 1) := by decide +kernel
theorem dX9_op_86 : decode cX9_op 86 = .ok (.aload_n 0, 1) := by decide +kernel
theorem dX9_op_87 : decode cX9_op 87 = .ok (.getfield 47, 3) := by decide +kernel
theorem dX9_op_90 : decode cX9_op 90 = .ok (.iload_n 1, 1) := by decide +kernel
theorem dX9_op_91 : decode cX9_op 91 = .ok (.dup2, 1) := by decide +kernel
theorem dX9_op_92 : decode cX9_op 92 = .ok (.iaload, 1) := by decide +kernel
theorem dX9_op_93 : decode cX9_op 93 = .ok (.iconst 1, 1) := by decide +kernel
theorem dX9_op_94 : decode cX9_op 94 = .ok (.iadd, 1) := by decide +kernel
theorem dX9_op_95 : decode cX9_op 95 = .ok (.iastore, 1) := by decide +kernel
theorem dX9_op_96 : decode cX9_op 96 = .ok (.aload_n 0, 1) := by decide +kernel
theorem dX9_op_97 : decode cX9_op 97 = .ok (.getfield 74, 3) := by decide +kernel
theorem dX9_op_100 : decode cX9_op 100 = .ok (.iload_n 1, 1) := by decide +kernel
theorem dX9_op_101 : decode cX9_op 101 = .ok (.iconst 0, 1) := by decide +kernel
theorem dX9_op_102 : decode cX9_op 102 = .ok (.bastore, 1) := by decide +kernel
theorem dX9_op_103 : decode cX9_op 103 = .ok (.aload_n 0, 1) := by decide +kernel
theorem dX9_op_104 : decode cX9_op 104 = .ok (.getfield 47, 3) := by decide +kernel
theorem dX9_op_107 : decode cX9_op 107 = .ok (.iload_n 1, 1) := by decide +kernel
theorem dX9_op_108 : decode cX9_op 108 = .ok (.iaload, 1) := by decide +kernel
theorem dX9_op_109 : decode cX9_op 109 = .ok (.iconst 1, 1) := by decide +kernel
theorem dX9_op_110 : decode cX9_op 110 = .ok (.isub, 1) := by decide +kernel
theorem dX9_op_111 : decode cX9_op 111 = .ok (.ireturn, 1) := by decide +kernel
theorem dX9_handler_0 : decode cX9_handler 0 = .ok (.aload_n 0, 1) := by decide +kernel
theorem dX9_handler_1 : decode cX9_handler 1 = .ok (.iload_n 1, 1) := by decide +kernel
theorem dX9_handler_2 : decode cX9_handler 2 = .ok (.invokevirtual 104, 3) := by decide +kernel
theorem dX9_handler_5 : decode cX9_handler 5 = .ok (.ifCond .eq 41, 3) := by decide +kernel
theorem dX9_handler_8 : decode cX9_handler 8 = .ok (.aload_n 0, 1) := by decide +kernel
theorem dX9_handler_9 : decode cX9_handler 9 = .ok (.iload 4, 2) := by decide +kernel
theorem dX9_handler_11 : decode cX9_handler 11 = .ok (.invokevirtual 97, 3) := by decide +kernel
theorem dX9_handler_14 : decode cX9_handler 14 = .ok (.ifCond .eq 32, 3) := by decide +kernel
theorem dX9_handler_17 : decode cX9_handler 17 = .ok (.iload_n 2, 1) := by decide +kernel
theorem dX9_handler_18 : decode cX9_handler 18 = .ok (.ifCond .lt 28, 3) := by decide +kernel
theorem dX9_handler_21 : decode cX9_handler 21 = .ok (.iload_n 2, 1) := by decide +kernel
theorem dX9_handler_22 : decode cX9_handler 22 = .ok (.iload_n 3, 1) := by decide +kernel
theorem dX9_handler_23 : decode cX9_handler 23 = .ok (.if_icmp .ge 23, 3) := by decide +kernel
theorem dX9_handler_26 : decode cX9_handler 26 = .ok (.iload_n 3, 1) := by decide +kernel
theorem dX9_handler_27 : decode cX9_handler 27 = .ok (.sipush 200, 3) := by decide +kernel
theorem dX9_handler_30 : decode cX9_handler 30 = .ok (.if_icmp .gt 16, 3) := by decide +kernel
theorem dX9_handler_33 : decode cX9_handler 33 = .ok (.iload 5, 2) := by decide +kernel
theorem dX9_handler_35 : decode cX9_handler 35 = .ok (.ifCond .lt 11, 3) := by decide +kernel
theorem dX9_handler_38 : decode cX9_handler 38 = .ok (.iload 5, 2) := by decide +kernel
theorem dX9_handler_40 : decode cX9_handler 40 = .ok (.sipush 200, 3) := by decide +kernel
theorem dX9_handler_43 : decode cX9_handler 43 = .ok (.if_icmp .lt 5, 3) := by decide +kernel
theorem dX9_handler_46 : decode cX9_handler 46 = .ok (.iconst (-1), 1) := by decide +kernel
theorem dX9_handler_47 : decode cX9_handler 47 = .ok (.ireturn, 1) := by decide +kernel
theorem dX9_handler_48 : decode cX9_handler 48 = .ok (.aload_n 0, 1) := by decide +kernel
theorem dX9_handler_49 : decode cX9_handler 49 = .ok (.getfield 59, 3) := by decide +kernel
theorem dX9_handler_52 : decode cX9_handler 52 = .ok (.iload_n 1, 1) := by decide +kernel
theorem dX9_handler_53 : decode cX9_handler 53 = .ok (.iaload, 1) := by decide +kernel
theorem dX9_handler_54 : decode cX9_handler 54 = .ok (.bipush 8, 2) := by decide +kernel
theorem dX9_handler_56 : decode cX9_handler 56 = .ok (.if_icmp .ne 6, 3) := by decide +kernel
theorem dX9_handler_59 : decode cX9_handler 59 = .ok (.bipush (-2), 2) := by decide +kernel
theorem dX9_handler_61 : decode cX9_handler 61 = .ok (.ireturn, 1) := by decide +kernel
theorem dX9_handler_62 : decode cX9_handler 62 = .ok (.bipush 8, 2) := by decide +kernel
theorem dX9_handler_64 : decode cX9_handler 64 = .ok (.iload_n 1, 1) := by decide +kernel
theorem dX9_handler_65 : decode cX9_handler 65 = .ok (.imul, 1) := by decide +kernel
theorem dX9_handler_66 : decode cX9_handler 66 = .ok (.aload_n 0, 1) := by decide +kernel
theorem dX9_handler_67 : decode cX9_handler 67 = .ok (.getfield 59, 3) := by decide +kernel
theorem dX9_handler_70 : decode cX9_handler 70 = .ok (.iload_n 1, 1) := by decide +kernel
theorem dX9_handler_71 : decode cX9_handler 71 = .ok (.iaload, 1) := by decide +kernel
theorem dX9_handler_72 : decode cX9_handler 72 = .ok (.iadd, 1) := by decide +kernel
theorem dX9_handler_73 : decode cX9_handler 73 = .ok (.istore 6, 2) := by decide +kernel
theorem dX9_handler_75 : decode cX9_handler 75 = .ok (.aload_n 0, 1) := by decide +kernel
theorem dX9_handler_76 : decode cX9_handler 76 = .ok (.getfield 62, 3) := by decide +kernel
theorem dX9_handler_79 : decode cX9_handler 79 = .ok (.iload 6, 2) := by decide +kernel
theorem dX9_handler_81 : decode cX9_handler 81 = .ok (.iload_n 2, 1) := by decide +kernel
theorem dX9_handler_82 : decode cX9_handler 82 = .ok (.iastore, 1) := by decide +kernel
theorem dX9_handler_83 : decode cX9_handler 83 = .ok (.aload_n 0, 1) := by decide +kernel
theorem dX9_handler_84 : decode cX9_handler 84 = .ok (.getfield 65, 3) := by decide +kernel
theorem dX9_handler_87 : decode cX9_handler 87 = .ok (.iload 6, 2) := by decide +kernel
theorem dX9_handler_89 : decode cX9_handler 89 = .ok (.iload_n 3, 1) := by decide +kernel
theorem dX9_handler_90 : decode cX9_handler 90 = .ok (.iastore, 1) := by decide +kernel
theorem dX9_handler_91 : decode cX9_handler 91 = .ok (.aload_n 0, 1) := by decide +kernel
theorem dX9_handler_92 : decode cX9_handler 92 = .ok (.getfield 68, 3) := by decide +kernel
theorem dX9_handler_95 : decode cX9_handler 95 = .ok (.iload 6, 2) := by decide +kernel
theorem dX9_handler_97 : decode cX9_handler 97 = .ok (.iload 4, 2) := by decide +kernel
theorem dX9_handler_99 : decode cX9_handler 99 = .ok (.iastore, 1) := by decide +kernel
theorem dX9_handler_100 : decode cX9_handler 100 = .ok (.aload_n 0, 1) := by decide +kernel
theorem dX9_handler_101 : decode cX9_handler 101 = .ok (.getfield 71, 3) := by decide +kernel
theorem dX9_handler_104 : decode cX9_handler 104 = .ok (.iload 6, 2) := by decide +kernel
theorem dX9_handler_106 : decode cX9_handler 106 = .ok (.iload 5, 2) := by decide +kernel
theorem dX9_handler_108 : decode cX9_handler 108 = .ok (.iastore, 1) := by decide +kernel
theorem dX9_handler_109 : decode cX9_handler 109 = .ok (.aload_n 0, 1) := by decide +kernel
theorem dX9_handler_110 : decode cX9_handler 110 = .ok (.getfield 59, 3) := by decide +kernel
theorem dX9_handler_113 : decode cX9_handler 113 = .ok (.iload_n 1, 1) := by decide +kernel
theorem dX9_handler_114 : decode cX9_handler 114 = .ok (.dup2, 1) := by decide +kernel
theorem dX9_handler_115 : decode cX9_handler 115 = .ok (.iaload, 1) := by decide +kernel
theorem dX9_handler_116 : decode cX9_handler 116 = .ok (.iconst 1, 1) := by decide +kernel
theorem dX9_handler_117 : decode cX9_handler 117 = .ok (.iadd, 1) := by decide +kernel
theorem dX9_handler_118 : decode cX9_handler 118 = .ok (.iastore, 1) := by decide +kernel
theorem dX9_handler_119 : decode cX9_handler 119 = .ok (.aload_n 0, 1) := by decide +kernel
theorem dX9_handler_120 : decode cX9_handler 120 = .ok (.getfield 74, 3) := by decide +kernel
theorem dX9_handler_123 : decode cX9_handler 123 = .ok (.iload_n 1, 1) := by decide +kernel
theorem dX9_handler_124 : decode cX9_handler 124 = .ok (.iconst 0, 1) := by decide +kernel
theorem dX9_handler_125 : decode cX9_handler 125 = .ok (.bastore, 1) := by decide +kernel
theorem dX9_handler_126 : decode cX9_handler 126 = .ok (.aload_n 0, 1) := by decide +kernel
theorem dX9_handler_127 : decode cX9_handler 127 = .ok (.getfield 59, 3) := by decide +kernel
theorem dX9_handler_130 : decode cX9_handler 130 = .ok (.iload_n 1, 1) := by decide +kernel
theorem dX9_handler_131 : decode cX9_handler 131 = .ok (.iaload, 1) := by decide +kernel
theorem dX9_handler_132 : decode cX9_handler 132 = .ok (.iconst 1, 1) := by decide +kernel
theorem dX9_handler_133 : decode cX9_handler 133 = .ok (.isub, 1) := by decide +kernel
theorem dX9_handler_134 : decode cX9_handler 134 = .ok (.ireturn, 1) := by decide +kernel
theorem dX9_goes_0 : decode cX9_goes 0 = .ok (.iload_n 1, 1) := by decide +kernel
theorem dX9_goes_1 : decode cX9_goes 1 = .ok (.iload_n 2, 1) := by decide +kernel
theorem dX9_goes_2 : decode cX9_goes 2 = .ok (.if_icmp .eq 49, 3) := by decide +kernel
theorem dX9_goes_5 : decode cX9_goes 5 = .ok (.iload_n 1, 1) := by decide +kernel
theorem dX9_goes_6 : decode cX9_goes 6 = .ok (.bipush 97, 2) := by decide +kernel
theorem dX9_goes_8 : decode cX9_goes 8 = .ok (.if_icmp .ne 16, 3) := by decide +kernel
theorem dX9_goes_11 : decode cX9_goes 11 = .ok (.iload_n 2, 1) := by decide +kernel
theorem dX9_goes_12 : decode cX9_goes 12 = .ok (.invokestatic 115, 3) := by decide +kernel
theorem dX9_goes_15 : decode cX9_goes 15 = .ok (.ifCond .eq 9, 3) := by decide +kernel
theorem dX9_goes_18 : decode cX9_goes 18 = .ok (.iload_n 2, 1) := by decide +kernel
theorem dX9_goes_19 : decode cX9_goes 19 = .ok (.bipush 98, 2) := by decide +kernel
theorem dX9_goes_21 : decode cX9_goes 21 = .ok (.if_icmp .ne 30, 3) := by decide +kernel
theorem dX9_goes_24 : decode cX9_goes 24 = .ok (.iload_n 1, 1) := by decide +kernel
theorem dX9_goes_25 : decode cX9_goes 25 = .ok (.invokestatic 118, 3) := by decide +kernel
theorem dX9_goes_28 : decode cX9_goes 28 = .ok (.ifCond .eq 27, 3) := by decide +kernel
theorem dX9_goes_31 : decode cX9_goes 31 = .ok (.iload_n 2, 1) := by decide +kernel
theorem dX9_goes_32 : decode cX9_goes 32 = .ok (.invokestatic 118, 3) := by decide +kernel
theorem dX9_goes_35 : decode cX9_goes 35 = .ok (.ifCond .eq 20, 3) := by decide +kernel
theorem dX9_goes_38 : decode cX9_goes 38 = .ok (.aload_n 0, 1) := by decide +kernel
theorem dX9_goes_39 : decode cX9_goes 39 = .ok (.iload_n 1, 1) := by decide +kernel
theorem dX9_goes_40 : decode cX9_goes 40 = .ok (.iconst 1, 1) := by decide +kernel
theorem dX9_goes_41 : decode cX9_goes 41 = .ok (.isub, 1) := by decide +kernel
theorem dX9_goes_42 : decode cX9_goes 42 = .ok (.iload_n 2, 1) := by decide +kernel
theorem dX9_goes_43 : decode cX9_goes 43 = .ok (.iconst 1, 1) := by decide +kernel
theorem dX9_goes_44 : decode cX9_goes 44 = .ok (.isub, 1) := by decide +kernel
theorem dX9_goes_45 : decode cX9_goes 45 = .ok (.invokevirtual 121, 3) := by decide +kernel
theorem dX9_goes_48 : decode cX9_goes 48 = .ok (.ifCond .eq 7, 3) := by decide +kernel
theorem dX9_goes_51 : decode cX9_goes 51 = .ok (.iconst 1, 1) := by decide +kernel
theorem dX9_goes_52 : decode cX9_goes 52 = .ok (.goto 4, 3) := by decide +kernel
theorem dX9_goes_55 : decode cX9_goes 55 = .ok (.iconst 0, 1) := by decide +kernel
theorem dX9_goes_56 : decode cX9_goes 56 = .ok (.ireturn, 1) := by decide +kernel
theorem dX9_meet_0 : decode cX9_meet 0 = .ok (.iload_n 1, 1) := by decide +kernel
theorem dX9_meet_1 : decode cX9_meet 1 = .ok (.iload_n 2, 1) := by decide +kernel
theorem dX9_meet_2 : decode cX9_meet 2 = .ok (.if_icmp .ne 5, 3) := by decide +kernel
theorem dX9_meet_5 : decode cX9_meet 5 = .ok (.iload_n 1, 1) := by decide +kernel
theorem dX9_meet_6 : decode cX9_meet 6 = .ok (.ireturn, 1) := by decide +kernel
theorem dX9_meet_7 : decode cX9_meet 7 = .ok (.iload_n 1, 1) := by decide +kernel
theorem dX9_meet_8 : decode cX9_meet 8 = .ok (.invokestatic 115, 3) := by decide +kernel
theorem dX9_meet_11 : decode cX9_meet 11 = .ok (.ifCond .eq 10, 3) := by decide +kernel
theorem dX9_meet_14 : decode cX9_meet 14 = .ok (.iload_n 2, 1) := by decide +kernel
theorem dX9_meet_15 : decode cX9_meet 15 = .ok (.invokestatic 115, 3) := by decide +kernel
theorem dX9_meet_18 : decode cX9_meet 18 = .ok (.ifCond .ne 6, 3) := by decide +kernel
theorem dX9_meet_21 : decode cX9_meet 21 = .ok (.bipush 99, 2) := by decide +kernel
theorem dX9_meet_23 : decode cX9_meet 23 = .ok (.ireturn, 1) := by decide +kernel
theorem dX9_meet_24 : decode cX9_meet 24 = .ok (.iload_n 1, 1) := by decide +kernel
theorem dX9_meet_25 : decode cX9_meet 25 = .ok (.bipush 97, 2) := by decide +kernel
theorem dX9_meet_27 : decode cX9_meet 27 = .ok (.if_icmp .eq 9, 3) := by decide +kernel
theorem dX9_meet_30 : decode cX9_meet 30 = .ok (.iload_n 2, 1) := by decide +kernel
theorem dX9_meet_31 : decode cX9_meet 31 = .ok (.bipush 97, 2) := by decide +kernel
theorem dX9_meet_33 : decode cX9_meet 33 = .ok (.if_icmp .ne 15, 3) := by decide +kernel
theorem dX9_meet_36 : decode cX9_meet 36 = .ok (.iload_n 1, 1) := by decide +kernel
theorem dX9_meet_37 : decode cX9_meet 37 = .ok (.bipush 97, 2) := by decide +kernel
theorem dX9_meet_39 : decode cX9_meet 39 = .ok (.if_icmp .ne 7, 3) := by decide +kernel
theorem dX9_meet_42 : decode cX9_meet 42 = .ok (.iload_n 2, 1) := by decide +kernel
theorem dX9_meet_43 : decode cX9_meet 43 = .ok (.goto 4, 3) := by decide +kernel
theorem dX9_meet_46 : decode cX9_meet 46 = .ok (.iload_n 1, 1) := by decide +kernel
theorem dX9_meet_47 : decode cX9_meet 47 = .ok (.ireturn, 1) := by decide +kernel
theorem dX9_meet_48 : decode cX9_meet 48 = .ok (.iload_n 1, 1) := by decide +kernel
theorem dX9_meet_49 : decode cX9_meet 49 = .ok (.invokestatic 118, 3) := by decide +kernel
theorem dX9_meet_52 : decode cX9_meet 52 = .ok (.ifCond .eq 52, 3) := by decide +kernel
theorem dX9_meet_55 : decode cX9_meet 55 = .ok (.iload_n 2, 1) := by decide +kernel
theorem dX9_meet_56 : decode cX9_meet 56 = .ok (.invokestatic 118, 3) := by decide +kernel
theorem dX9_meet_59 : decode cX9_meet 59 = .ok (.ifCond .eq 45, 3) := by decide +kernel
theorem dX9_meet_62 : decode cX9_meet 62 = .ok (.iload_n 1, 1) := by decide +kernel
theorem dX9_meet_63 : decode cX9_meet 63 = .ok (.iconst 1, 1) := by decide +kernel
theorem dX9_meet_64 : decode cX9_meet 64 = .ok (.isub, 1) := by decide +kernel
theorem dX9_meet_65 : decode cX9_meet 65 = .ok (.istore_n 3, 1) := by decide +kernel
theorem dX9_meet_66 : decode cX9_meet 66 = .ok (.iload_n 3, 1) := by decide +kernel
theorem dX9_meet_67 : decode cX9_meet 67 = .ok (.ifCond .lt 24, 3) := by decide +kernel
theorem dX9_meet_70 : decode cX9_meet 70 = .ok (.aload_n 0, 1) := by decide +kernel
theorem dX9_meet_71 : decode cX9_meet 71 = .ok (.iload_n 2, 1) := by decide +kernel
theorem dX9_meet_72 : decode cX9_meet 72 = .ok (.iconst 1, 1) := by decide +kernel
theorem dX9_meet_73 : decode cX9_meet 73 = .ok (.isub, 1) := by decide +kernel
theorem dX9_meet_74 : decode cX9_meet 74 = .ok (.iload_n 3, 1) := by decide +kernel
theorem dX9_meet_75 : decode cX9_meet 75 = .ok (.invokevirtual 121, 3) := by decide +kernel
theorem dX9_meet_78 : decode cX9_meet 78 = .ok (.ifCond .ne 13, 3) := by decide +kernel
theorem dX9_meet_81 : decode cX9_meet 81 = .ok (.aload_n 0, 1) := by decide +kernel
theorem dX9_meet_82 : decode cX9_meet 82 = .ok (.getfield 9, 3) := by decide +kernel
theorem dX9_meet_85 : decode cX9_meet 85 = .ok (.iload_n 3, 1) := by decide +kernel
theorem dX9_meet_86 : decode cX9_meet 86 = .ok (.iaload, 1) := by decide +kernel
theorem dX9_meet_87 : decode cX9_meet 87 = .ok (.istore_n 3, 1) := by decide +kernel
theorem dX9_meet_88 : decode cX9_meet 88 = .ok (.goto (-22), 3) := by decide +kernel
theorem dX9_meet_91 : decode cX9_meet 91 = .ok (.iload_n 3, 1) := by decide +kernel
theorem dX9_meet_92 : decode cX9_meet 92 = .ok (.ifCond .ge 8, 3) := by decide +kernel
theorem dX9_meet_95 : decode cX9_meet 95 = .ok (.bipush 98, 2) := by decide +kernel
theorem dX9_meet_97 : decode cX9_meet 97 = .ok (.goto 6, 3) := by decide +kernel
theorem dX9_meet_100 : decode cX9_meet 100 = .ok (.iconst 1, 1) := by decide +kernel
theorem dX9_meet_101 : decode cX9_meet 101 = .ok (.iload_n 3, 1) := by decide +kernel
theorem dX9_meet_102 : decode cX9_meet 102 = .ok (.iadd, 1) := by decide +kernel
theorem dX9_meet_103 : decode cX9_meet 103 = .ok (.ireturn, 1) := by decide +kernel
theorem dX9_meet_104 : decode cX9_meet 104 = .ok (.bipush 98, 2) := by decide +kernel
theorem dX9_meet_106 : decode cX9_meet 106 = .ok (.ireturn, 1) := by decide +kernel
theorem dX9_come_0 : decode cX9_come 0 = .ok (.iload_n 2, 1) := by decide +kernel
theorem dX9_come_1 : decode cX9_come 1 = .ok (.aload_n 0, 1) := by decide +kernel
theorem dX9_come_2 : decode cX9_come 2 = .ok (.getfield 47, 3) := by decide +kernel
theorem dX9_come_5 : decode cX9_come 5 = .ok (.iload_n 1, 1) := by decide +kernel
theorem dX9_come_6 : decode cX9_come 6 = .ok (.iaload, 1) := by decide +kernel
theorem dX9_come_7 : decode cX9_come 7 = .ok (.if_icmp .lt 5, 3) := by decide +kernel
theorem dX9_come_10 : decode cX9_come 10 = .ok (.iconst 0, 1) := by decide +kernel
theorem dX9_come_11 : decode cX9_come 11 = .ok (.ireturn, 1) := by decide +kernel
theorem dX9_come_12 : decode cX9_come 12 = .ok (.aload_n 0, 1) := by decide +kernel
theorem dX9_come_13 : decode cX9_come 13 = .ok (.getfield 32, 3) := by decide +kernel
theorem dX9_come_16 : decode cX9_come 16 = .ok (.iload_n 1, 1) := by decide +kernel
theorem dX9_come_17 : decode cX9_come 17 = .ok (.iaload, 1) := by decide +kernel
theorem dX9_come_18 : decode cX9_come 18 = .ok (.istore_n 3, 1) := by decide +kernel
theorem dX9_come_19 : decode cX9_come 19 = .ok (.sipush 200, 3) := by decide +kernel
theorem dX9_come_22 : decode cX9_come 22 = .ok (.iload_n 1, 1) := by decide +kernel
theorem dX9_come_23 : decode cX9_come 23 = .ok (.imul, 1) := by decide +kernel
theorem dX9_come_24 : decode cX9_come 24 = .ok (.iload_n 2, 1) := by decide +kernel
theorem dX9_come_25 : decode cX9_come 25 = .ok (.iadd, 1) := by decide +kernel
theorem dX9_come_26 : decode cX9_come 26 = .ok (.istore 4, 2) := by decide +kernel
theorem dX9_come_28 : decode cX9_come 28 = .ok (.aload_n 0, 1) := by decide +kernel
theorem dX9_come_29 : decode cX9_come 29 = .ok (.getfield 77, 3) := by decide +kernel
theorem dX9_come_32 : decode cX9_come 32 = .ok (.iload 4, 2) := by decide +kernel
theorem dX9_come_34 : decode cX9_come 34 = .ok (.iaload, 1) := by decide +kernel
theorem dX9_come_35 : decode cX9_come 35 = .ok (.ifCond .ge 63, 3) := by decide +kernel
theorem dX9_come_38 : decode cX9_come 38 = .ok (.aload_n 0, 1) := by decide +kernel
theorem dX9_come_39 : decode cX9_come 39 = .ok (.getfield 77, 3) := by decide +kernel
theorem dX9_come_42 : decode cX9_come 42 = .ok (.iload 4, 2) := by decide +kernel
theorem dX9_come_44 : decode cX9_come 44 = .ok (.aload_n 0, 1) := by decide +kernel
theorem dX9_come_45 : decode cX9_come 45 = .ok (.getfield 124, 3) := by decide +kernel
theorem dX9_come_48 : decode cX9_come 48 = .ok (.iastore, 1) := by decide +kernel
theorem dX9_come_49 : decode cX9_come 49 = .ok (.iconst 0, 1) := by decide +kernel
theorem dX9_come_50 : decode cX9_come 50 = .ok (.istore 5, 2) := by decide +kernel
theorem dX9_come_52 : decode cX9_come 52 = .ok (.iload 5, 2) := by decide +kernel
theorem dX9_come_54 : decode cX9_come 54 = .ok (.iload_n 3, 1) := by decide +kernel
theorem dX9_come_55 : decode cX9_come 55 = .ok (.aload_n 0, 1) := by decide +kernel
theorem dX9_come_56 : decode cX9_come 56 = .ok (.getfield 124, 3) := by decide +kernel
theorem dX9_come_59 : decode cX9_come 59 = .ok (.iadd, 1) := by decide +kernel
theorem dX9_come_60 : decode cX9_come 60 = .ok (.if_icmp .ge 29, 3) := by decide +kernel
theorem dX9_come_63 : decode cX9_come 63 = .ok (.aload_n 0, 1) := by decide +kernel
theorem dX9_come_64 : decode cX9_come 64 = .ok (.getfield 81, 3) := by decide +kernel
theorem dX9_come_67 : decode cX9_come 67 = .ok (.bipush 12, 2) := by decide +kernel
theorem dX9_come_69 : decode cX9_come 69 = .ok (.iload 4, 2) := by decide +kernel
theorem dX9_come_71 : decode cX9_come 71 = .ok (.imul, 1) := by decide +kernel
theorem dX9_come_72 : decode cX9_come 72 = .ok (.iload 5, 2) := by decide +kernel
theorem dX9_come_74 : decode cX9_come 74 = .ok (.iadd, 1) := by decide +kernel
theorem dX9_come_75 : decode cX9_come 75 = .ok (.aload_n 0, 1) := by decide +kernel
theorem dX9_come_76 : decode cX9_come 76 = .ok (.getfield 87, 3) := by decide +kernel
theorem dX9_come_79 : decode cX9_come 79 = .ok (.iload 5, 2) := by decide +kernel
theorem dX9_come_81 : decode cX9_come 81 = .ok (.iaload, 1) := by decide +kernel
theorem dX9_come_82 : decode cX9_come 82 = .ok (.iastore, 1) := by decide +kernel
theorem dX9_come_83 : decode cX9_come 83 = .ok (.iinc 5 1, 3) := by decide +kernel
theorem dX9_come_86 : decode cX9_come 86 = .ok (.goto (-34), 3) := by decide +kernel
theorem dX9_come_89 : decode cX9_come 89 = .ok (.aload_n 0, 1) := by decide +kernel
theorem dX9_come_90 : decode cX9_come 90 = .ok (.getfield 84, 3) := by decide +kernel
theorem dX9_come_93 : decode cX9_come 93 = .ok (.iload_n 2, 1) := by decide +kernel
theorem dX9_come_94 : decode cX9_come 94 = .ok (.iconst 1, 1) := by decide +kernel
theorem dX9_come_95 : decode cX9_come 95 = .ok (.bastore, 1) := by decide +kernel
theorem dX9_come_96 : decode cX9_come 96 = .ok (.iconst 1, 1) := by decide +kernel
theorem dX9_come_97 : decode cX9_come 97 = .ok (.ireturn, 1) := by decide +kernel
theorem dX9_come_98 : decode cX9_come 98 = .ok (.aload_n 0, 1) := by decide +kernel
theorem dX9_come_99 : decode cX9_come 99 = .ok (.getfield 77, 3) := by decide +kernel
theorem dX9_come_102 : decode cX9_come 102 = .ok (.iload 4, 2) := by decide +kernel
theorem dX9_come_104 : decode cX9_come 104 = .ok (.iaload, 1) := by decide +kernel
theorem dX9_come_105 : decode cX9_come 105 = .ok (.aload_n 0, 1) := by decide +kernel
theorem dX9_come_106 : decode cX9_come 106 = .ok (.getfield 124, 3) := by decide +kernel
theorem dX9_come_109 : decode cX9_come 109 = .ok (.if_icmp .eq 10, 3) := by decide +kernel
theorem dX9_come_112 : decode cX9_come 112 = .ok (.aload_n 0, 1) := by decide +kernel
theorem dX9_come_113 : decode cX9_come 113 = .ok (.iload_n 2, 1) := by decide +kernel
theorem dX9_come_114 : decode cX9_come 114 = .ok (.putfield 127, 3) := by decide +kernel
theorem dX9_come_117 : decode cX9_come 117 = .ok (.iconst 0, 1) := by decide +kernel
theorem dX9_come_118 : decode cX9_come 118 = .ok (.ireturn, 1) := by decide +kernel
theorem dX9_come_119 : decode cX9_come 119 = .ok (.iconst 0, 1) := by decide +kernel
theorem dX9_come_120 : decode cX9_come 120 = .ok (.istore 5, 2) := by decide +kernel
theorem dX9_come_122 : decode cX9_come 122 = .ok (.iload 5, 2) := by decide +kernel
theorem dX9_come_124 : decode cX9_come 124 = .ok (.iload_n 3, 1) := by decide +kernel
theorem dX9_come_125 : decode cX9_come 125 = .ok (.aload_n 0, 1) := by decide +kernel
theorem dX9_come_126 : decode cX9_come 126 = .ok (.getfield 124, 3) := by decide +kernel
theorem dX9_come_129 : decode cX9_come 129 = .ok (.iadd, 1) := by decide +kernel
theorem dX9_come_130 : decode cX9_come 130 = .ok (.if_icmp .ge 108, 3) := by decide +kernel
theorem dX9_come_133 : decode cX9_come 133 = .ok (.aload_n 0, 1) := by decide +kernel
theorem dX9_come_134 : decode cX9_come 134 = .ok (.aload_n 0, 1) := by decide +kernel
theorem dX9_come_135 : decode cX9_come 135 = .ok (.getfield 81, 3) := by decide +kernel
theorem dX9_come_138 : decode cX9_come 138 = .ok (.bipush 12, 2) := by decide +kernel
theorem dX9_come_140 : decode cX9_come 140 = .ok (.iload 4, 2) := by decide +kernel
theorem dX9_come_142 : decode cX9_come 142 = .ok (.imul, 1) := by decide +kernel
theorem dX9_come_143 : decode cX9_come 143 = .ok (.iload 5, 2) := by decide +kernel
theorem dX9_come_145 : decode cX9_come 145 = .ok (.iadd, 1) := by decide +kernel
theorem dX9_come_146 : decode cX9_come 146 = .ok (.iaload, 1) := by decide +kernel
theorem dX9_come_147 : decode cX9_come 147 = .ok (.aload_n 0, 1) := by decide +kernel
theorem dX9_come_148 : decode cX9_come 148 = .ok (.getfield 87, 3) := by decide +kernel
theorem dX9_come_151 : decode cX9_come 151 = .ok (.iload 5, 2) := by decide +kernel
theorem dX9_come_153 : decode cX9_come 153 = .ok (.iaload, 1) := by decide +kernel
theorem dX9_come_154 : decode cX9_come 154 = .ok (.invokevirtual 130, 3) := by decide +kernel
theorem dX9_come_157 : decode cX9_come 157 = .ok (.istore 6, 2) := by decide +kernel
theorem dX9_come_159 : decode cX9_come 159 = .ok (.iload 5, 2) := by decide +kernel
theorem dX9_come_161 : decode cX9_come 161 = .ok (.iload_n 3, 1) := by decide +kernel
theorem dX9_come_162 : decode cX9_come 162 = .ok (.if_icmp .lt 17, 3) := by decide +kernel
theorem dX9_come_165 : decode cX9_come 165 = .ok (.iload 6, 2) := by decide +kernel
theorem dX9_come_167 : decode cX9_come 167 = .ok (.bipush 99, 2) := by decide +kernel
theorem dX9_come_169 : decode cX9_come 169 = .ok (.if_icmp .ne 10, 3) := by decide +kernel
theorem dX9_come_172 : decode cX9_come 172 = .ok (.aload_n 0, 1) := by decide +kernel
theorem dX9_come_173 : decode cX9_come 173 = .ok (.iload_n 2, 1) := by decide +kernel
theorem dX9_come_174 : decode cX9_come 174 = .ok (.putfield 127, 3) := by decide +kernel
theorem dX9_come_177 : decode cX9_come 177 = .ok (.iconst 0, 1) := by decide +kernel
theorem dX9_come_178 : decode cX9_come 178 = .ok (.ireturn, 1) := by decide +kernel
theorem dX9_come_179 : decode cX9_come 179 = .ok (.aload_n 0, 1) := by decide +kernel
theorem dX9_come_180 : decode cX9_come 180 = .ok (.getfield 84, 3) := by decide +kernel
theorem dX9_come_183 : decode cX9_come 183 = .ok (.iload_n 2, 1) := by decide +kernel
theorem dX9_come_184 : decode cX9_come 184 = .ok (.aload_n 0, 1) := by decide +kernel
theorem dX9_come_185 : decode cX9_come 185 = .ok (.getfield 84, 3) := by decide +kernel
theorem dX9_come_188 : decode cX9_come 188 = .ok (.iload_n 2, 1) := by decide +kernel
theorem dX9_come_189 : decode cX9_come 189 = .ok (.baload, 1) := by decide +kernel
theorem dX9_come_190 : decode cX9_come 190 = .ok (.ifCond .ne 21, 3) := by decide +kernel
theorem dX9_come_193 : decode cX9_come 193 = .ok (.iload 6, 2) := by decide +kernel
theorem dX9_come_195 : decode cX9_come 195 = .ok (.aload_n 0, 1) := by decide +kernel
theorem dX9_come_196 : decode cX9_come 196 = .ok (.getfield 81, 3) := by decide +kernel
theorem dX9_come_199 : decode cX9_come 199 = .ok (.bipush 12, 2) := by decide +kernel
theorem dX9_come_201 : decode cX9_come 201 = .ok (.iload 4, 2) := by decide +kernel
theorem dX9_come_203 : decode cX9_come 203 = .ok (.imul, 1) := by decide +kernel
theorem dX9_come_204 : decode cX9_come 204 = .ok (.iload 5, 2) := by decide +kernel
theorem dX9_come_206 : decode cX9_come 206 = .ok (.iadd, 1) := by decide +kernel
theorem dX9_come_207 : decode cX9_come 207 = .ok (.iaload, 1) := by decide +kernel
theorem dX9_come_208 : decode cX9_come 208 = .ok (.if_icmp .eq 7, 3) := by decide +kernel
theorem dX9_come_211 : decode cX9_come 211 = .ok (.iconst 1, 1) := by decide +kernel
theorem dX9_come_212 : decode cX9_come 212 = .ok (.goto 4, 3) := by decide +kernel
theorem dX9_come_215 : decode cX9_come 215 = .ok (.iconst 0, 1) := by decide +kernel
theorem dX9_come_216 : decode cX9_come 216 = .ok (.bastore, 1) := by decide +kernel
theorem dX9_come_217 : decode cX9_come 217 = .ok (.aload_n 0, 1) := by decide +kernel
theorem dX9_come_218 : decode cX9_come 218 = .ok (.getfield 81, 3) := by decide +kernel
theorem dX9_come_221 : decode cX9_come 221 = .ok (.bipush 12, 2) := by decide +kernel
theorem dX9_come_223 : decode cX9_come 223 = .ok (.iload 4, 2) := by decide +kernel
theorem dX9_come_225 : decode cX9_come 225 = .ok (.imul, 1) := by decide +kernel
theorem dX9_come_226 : decode cX9_come 226 = .ok (.iload 5, 2) := by decide +kernel
theorem dX9_come_228 : decode cX9_come 228 = .ok (.iadd, 1) := by decide +kernel
theorem dX9_come_229 : decode cX9_come 229 = .ok (.iload 6, 2) := by decide +kernel
theorem dX9_come_231 : decode cX9_come 231 = .ok (.iastore, 1) := by decide +kernel
theorem dX9_come_232 : decode cX9_come 232 = .ok (.iinc 5 1, 3) := by decide +kernel
theorem dX9_come_235 : decode cX9_come 235 = .ok (.goto (-113), 3) := by decide +kernel
theorem dX9_come_238 : decode cX9_come 238 = .ok (.iconst 1, 1) := by decide +kernel
theorem dX9_come_239 : decode cX9_come 239 = .ok (.ireturn, 1) := by decide +kernel
theorem dX9_takeUp_0 : decode cX9_takeUp 0 = .ok (.sipush 200, 3) := by decide +kernel
theorem dX9_takeUp_3 : decode cX9_takeUp 3 = .ok (.iload_n 1, 1) := by decide +kernel
theorem dX9_takeUp_4 : decode cX9_takeUp 4 = .ok (.imul, 1) := by decide +kernel
theorem dX9_takeUp_5 : decode cX9_takeUp 5 = .ok (.iload_n 2, 1) := by decide +kernel
theorem dX9_takeUp_6 : decode cX9_takeUp 6 = .ok (.iadd, 1) := by decide +kernel
theorem dX9_takeUp_7 : decode cX9_takeUp 7 = .ok (.istore_n 3, 1) := by decide +kernel
theorem dX9_takeUp_8 : decode cX9_takeUp 8 = .ok (.aload_n 0, 1) := by decide +kernel
theorem dX9_takeUp_9 : decode cX9_takeUp 9 = .ok (.aload_n 0, 1) := by decide +kernel
theorem dX9_takeUp_10 : decode cX9_takeUp 10 = .ok (.getfield 77, 3) := by decide +kernel
theorem dX9_takeUp_13 : decode cX9_takeUp 13 = .ok (.iload_n 3, 1) := by decide +kernel
theorem dX9_takeUp_14 : decode cX9_takeUp 14 = .ok (.iaload, 1) := by decide +kernel
theorem dX9_takeUp_15 : decode cX9_takeUp 15 = .ok (.putfield 124, 3) := by decide +kernel
theorem dX9_takeUp_18 : decode cX9_takeUp 18 = .ok (.aload_n 0, 1) := by decide +kernel
theorem dX9_takeUp_19 : decode cX9_takeUp 19 = .ok (.iload_n 1, 1) := by decide +kernel
theorem dX9_takeUp_20 : decode cX9_takeUp 20 = .ok (.putfield 134, 3) := by decide +kernel
theorem dX9_takeUp_23 : decode cX9_takeUp 23 = .ok (.iconst 0, 1) := by decide +kernel
theorem dX9_takeUp_24 : decode cX9_takeUp 24 = .ok (.istore 4, 2) := by decide +kernel
theorem dX9_takeUp_26 : decode cX9_takeUp 26 = .ok (.iload 4, 2) := by decide +kernel
theorem dX9_takeUp_28 : decode cX9_takeUp 28 = .ok (.aload_n 0, 1) := by decide +kernel
theorem dX9_takeUp_29 : decode cX9_takeUp 29 = .ok (.getfield 32, 3) := by decide +kernel
theorem dX9_takeUp_32 : decode cX9_takeUp 32 = .ok (.iload_n 1, 1) := by decide +kernel
theorem dX9_takeUp_33 : decode cX9_takeUp 33 = .ok (.iaload, 1) := by decide +kernel
theorem dX9_takeUp_34 : decode cX9_takeUp 34 = .ok (.aload_n 0, 1) := by decide +kernel
theorem dX9_takeUp_35 : decode cX9_takeUp 35 = .ok (.getfield 124, 3) := by decide +kernel
theorem dX9_takeUp_38 : decode cX9_takeUp 38 = .ok (.iadd, 1) := by decide +kernel
theorem dX9_takeUp_39 : decode cX9_takeUp 39 = .ok (.if_icmp .ge 28, 3) := by decide +kernel
theorem dX9_takeUp_42 : decode cX9_takeUp 42 = .ok (.aload_n 0, 1) := by decide +kernel
theorem dX9_takeUp_43 : decode cX9_takeUp 43 = .ok (.getfield 87, 3) := by decide +kernel
theorem dX9_takeUp_46 : decode cX9_takeUp 46 = .ok (.iload 4, 2) := by decide +kernel
theorem dX9_takeUp_48 : decode cX9_takeUp 48 = .ok (.aload_n 0, 1) := by decide +kernel
theorem dX9_takeUp_49 : decode cX9_takeUp 49 = .ok (.getfield 81, 3) := by decide +kernel
theorem dX9_takeUp_52 : decode cX9_takeUp 52 = .ok (.bipush 12, 2) := by decide +kernel
theorem dX9_takeUp_54 : decode cX9_takeUp 54 = .ok (.iload_n 3, 1) := by decide +kernel
theorem dX9_takeUp_55 : decode cX9_takeUp 55 = .ok (.imul, 1) := by decide +kernel
theorem dX9_takeUp_56 : decode cX9_takeUp 56 = .ok (.iload 4, 2) := by decide +kernel
theorem dX9_takeUp_58 : decode cX9_takeUp 58 = .ok (.iadd, 1) := by decide +kernel
theorem dX9_takeUp_59 : decode cX9_takeUp 59 = .ok (.iaload, 1) := by decide +kernel
theorem dX9_takeUp_60 : decode cX9_takeUp 60 = .ok (.iastore, 1) := by decide +kernel
theorem dX9_takeUp_61 : decode cX9_takeUp 61 = .ok (.iinc 4 1, 3) := by decide +kernel
theorem dX9_takeUp_64 : decode cX9_takeUp 64 = .ok (.goto (-38), 3) := by decide +kernel
theorem dX9_takeUp_67 : decode cX9_takeUp 67 = .ok (.return_, 1) := by decide +kernel
theorem dX9_push_0 : decode cX9_push 0 = .ok (.aload_n 0, 1) := by decide +kernel
theorem dX9_push_1 : decode cX9_push 1 = .ok (.getfield 124, 3) := by decide +kernel
theorem dX9_push_4 : decode cX9_push 4 = .ok (.aload_n 0, 1) := by decide +kernel
theorem dX9_push_5 : decode cX9_push 5 = .ok (.getfield 35, 3) := by decide +kernel
theorem dX9_push_8 : decode cX9_push 8 = .ok (.aload_n 0, 1) := by decide +kernel
theorem dX9_push_9 : decode cX9_push 9 = .ok (.getfield 134, 3) := by decide +kernel
theorem dX9_push_12 : decode cX9_push 12 = .ok (.iaload, 1) := by decide +kernel
theorem dX9_push_13 : decode cX9_push 13 = .ok (.if_icmp .ne 5, 3) := by decide +kernel
theorem dX9_push_16 : decode cX9_push 16 = .ok (.iconst 0, 1) := by decide +kernel
theorem dX9_push_17 : decode cX9_push 17 = .ok (.ireturn, 1) := by decide +kernel
theorem dX9_push_18 : decode cX9_push 18 = .ok (.aload_n 0, 1) := by decide +kernel
theorem dX9_push_19 : decode cX9_push 19 = .ok (.getfield 87, 3) := by decide +kernel
theorem dX9_push_22 : decode cX9_push 22 = .ok (.aload_n 0, 1) := by decide +kernel
theorem dX9_push_23 : decode cX9_push 23 = .ok (.getfield 32, 3) := by decide +kernel
theorem dX9_push_26 : decode cX9_push 26 = .ok (.aload_n 0, 1) := by decide +kernel
theorem dX9_push_27 : decode cX9_push 27 = .ok (.getfield 134, 3) := by decide +kernel
theorem dX9_push_30 : decode cX9_push 30 = .ok (.iaload, 1) := by decide +kernel
theorem dX9_push_31 : decode cX9_push 31 = .ok (.aload_n 0, 1) := by decide +kernel
theorem dX9_push_32 : decode cX9_push 32 = .ok (.getfield 124, 3) := by decide +kernel
theorem dX9_push_35 : decode cX9_push 35 = .ok (.iadd, 1) := by decide +kernel
theorem dX9_push_36 : decode cX9_push 36 = .ok (.iload_n 1, 1) := by decide +kernel
theorem dX9_push_37 : decode cX9_push 37 = .ok (.iastore, 1) := by decide +kernel
theorem dX9_push_38 : decode cX9_push 38 = .ok (.aload_n 0, 1) := by decide +kernel
theorem dX9_push_39 : decode cX9_push 39 = .ok (.dup, 1) := by decide +kernel
theorem dX9_push_40 : decode cX9_push 40 = .ok (.getfield 124, 3) := by decide +kernel
theorem dX9_push_43 : decode cX9_push 43 = .ok (.iconst 1, 1) := by decide +kernel
theorem dX9_push_44 : decode cX9_push 44 = .ok (.iadd, 1) := by decide +kernel
theorem dX9_push_45 : decode cX9_push 45 = .ok (.putfield 124, 3) := by decide +kernel
theorem dX9_push_48 : decode cX9_push 48 = .ok (.iconst 1, 1) := by decide +kernel
theorem dX9_push_49 : decode cX9_push 49 = .ok (.ireturn, 1) := by decide +kernel
theorem dX9_pop_0 : decode cX9_pop 0 = .ok (.aload_n 0, 1) := by decide +kernel
theorem dX9_pop_1 : decode cX9_pop 1 = .ok (.getfield 124, 3) := by decide +kernel
theorem dX9_pop_4 : decode cX9_pop 4 = .ok (.ifCond .ne 5, 3) := by decide +kernel
theorem dX9_pop_7 : decode cX9_pop 7 = .ok (.iconst (-1), 1) := by decide +kernel
theorem dX9_pop_8 : decode cX9_pop 8 = .ok (.ireturn, 1) := by decide +kernel
theorem dX9_pop_9 : decode cX9_pop 9 = .ok (.aload_n 0, 1) := by decide +kernel
theorem dX9_pop_10 : decode cX9_pop 10 = .ok (.dup, 1) := by decide +kernel
theorem dX9_pop_11 : decode cX9_pop 11 = .ok (.getfield 124, 3) := by decide +kernel
theorem dX9_pop_14 : decode cX9_pop 14 = .ok (.iconst 1, 1) := by decide +kernel
theorem dX9_pop_15 : decode cX9_pop 15 = .ok (.isub, 1) := by decide +kernel
theorem dX9_pop_16 : decode cX9_pop 16 = .ok (.putfield 124, 3) := by decide +kernel
theorem dX9_pop_19 : decode cX9_pop 19 = .ok (.aload_n 0, 1) := by decide +kernel
theorem dX9_pop_20 : decode cX9_pop 20 = .ok (.getfield 87, 3) := by decide +kernel
theorem dX9_pop_23 : decode cX9_pop 23 = .ok (.aload_n 0, 1) := by decide +kernel
theorem dX9_pop_24 : decode cX9_pop 24 = .ok (.getfield 32, 3) := by decide +kernel
theorem dX9_pop_27 : decode cX9_pop 27 = .ok (.aload_n 0, 1) := by decide +kernel
theorem dX9_pop_28 : decode cX9_pop 28 = .ok (.getfield 134, 3) := by decide +kernel
theorem dX9_pop_31 : decode cX9_pop 31 = .ok (.iaload, 1) := by decide +kernel
theorem dX9_pop_32 : decode cX9_pop 32 = .ok (.aload_n 0, 1) := by decide +kernel
theorem dX9_pop_33 : decode cX9_pop 33 = .ok (.getfield 124, 3) := by decide +kernel
theorem dX9_pop_36 : decode cX9_pop 36 = .ok (.iadd, 1) := by decide +kernel
theorem dX9_pop_37 : decode cX9_pop 37 = .ok (.iaload, 1) := by decide +kernel
theorem dX9_pop_38 : decode cX9_pop 38 = .ok (.ireturn, 1) := by decide +kernel
theorem dX9_popInto_0 : decode cX9_popInto 0 = .ok (.aload_n 0, 1) := by decide +kernel
theorem dX9_popInto_1 : decode cX9_popInto 1 = .ok (.invokevirtual 137, 3) := by decide +kernel
theorem dX9_popInto_4 : decode cX9_popInto 4 = .ok (.istore_n 2, 1) := by decide +kernel
theorem dX9_popInto_5 : decode cX9_popInto 5 = .ok (.iload_n 2, 1) := by decide +kernel
theorem dX9_popInto_6 : decode cX9_popInto 6 = .ok (.iconst (-1), 1) := by decide +kernel
theorem dX9_popInto_7 : decode cX9_popInto 7 = .ok (.if_icmp .eq 16, 3) := by decide +kernel
theorem dX9_popInto_10 : decode cX9_popInto 10 = .ok (.aload_n 0, 1) := by decide +kernel
theorem dX9_popInto_11 : decode cX9_popInto 11 = .ok (.iload_n 2, 1) := by decide +kernel
theorem dX9_popInto_12 : decode cX9_popInto 12 = .ok (.iload_n 1, 1) := by decide +kernel
theorem dX9_popInto_13 : decode cX9_popInto 13 = .ok (.invokevirtual 141, 3) := by decide +kernel
theorem dX9_popInto_16 : decode cX9_popInto 16 = .ok (.ifCond .eq 7, 3) := by decide +kernel
theorem dX9_popInto_19 : decode cX9_popInto 19 = .ok (.iconst 1, 1) := by decide +kernel
theorem dX9_popInto_20 : decode cX9_popInto 20 = .ok (.goto 4, 3) := by decide +kernel
theorem dX9_popInto_23 : decode cX9_popInto 23 = .ok (.iconst 0, 1) := by decide +kernel
theorem dX9_popInto_24 : decode cX9_popInto 24 = .ok (.ireturn, 1) := by decide +kernel
theorem dX9_popReference_0 : decode cX9_popReference 0 = .ok (.aload_n 0, 1) := by decide +kernel
theorem dX9_popReference_1 : decode cX9_popReference 1 = .ok (.invokevirtual 137, 3) := by decide +kernel
theorem dX9_popReference_4 : decode cX9_popReference 4 = .ok (.istore_n 1, 1) := by decide +kernel
theorem dX9_popReference_5 : decode cX9_popReference 5 = .ok (.iload_n 1, 1) := by decide +kernel
theorem dX9_popReference_6 : decode cX9_popReference 6 = .ok (.iconst (-1), 1) := by decide +kernel
theorem dX9_popReference_7 : decode cX9_popReference 7 = .ok (.if_icmp .eq 14, 3) := by decide +kernel
theorem dX9_popReference_10 : decode cX9_popReference 10 = .ok (.iload_n 1, 1) := by decide +kernel
theorem dX9_popReference_11 : decode cX9_popReference 11 = .ok (.invokestatic 115, 3) := by decide +kernel
theorem dX9_popReference_14 : decode cX9_popReference 14 = .ok (.ifCond .eq 7, 3) := by decide +kernel
theorem dX9_popReference_17 : decode cX9_popReference 17 = .ok (.iconst 1, 1) := by decide +kernel
theorem dX9_popReference_18 : decode cX9_popReference 18 = .ok (.goto 4, 3) := by decide +kernel
theorem dX9_popReference_21 : decode cX9_popReference 21 = .ok (.iconst 0, 1) := by decide +kernel
theorem dX9_popReference_22 : decode cX9_popReference 22 = .ok (.ireturn, 1) := by decide +kernel
theorem dX9_ints_0 : decode cX9_ints 0 = .ok (.iconst 0, 1) := by decide +kernel
theorem dX9_ints_1 : decode cX9_ints 1 = .ok (.istore_n 2, 1) := by decide +kernel
theorem dX9_ints_2 : decode cX9_ints 2 = .ok (.iload_n 2, 1) := by decide +kernel
theorem dX9_ints_3 : decode cX9_ints 3 = .ok (.iload_n 1, 1) := by decide +kernel
theorem dX9_ints_4 : decode cX9_ints 4 = .ok (.if_icmp .ge 18, 3) := by decide +kernel
theorem dX9_ints_7 : decode cX9_ints 7 = .ok (.aload_n 0, 1) := by decide +kernel
theorem dX9_ints_8 : decode cX9_ints 8 = .ok (.invokevirtual 137, 3) := by decide +kernel
theorem dX9_ints_11 : decode cX9_ints 11 = .ok (.ifCond .eq 5, 3) := by decide +kernel
theorem dX9_ints_14 : decode cX9_ints 14 = .ok (.iconst 0, 1) := by decide +kernel
theorem dX9_ints_15 : decode cX9_ints 15 = .ok (.ireturn, 1) := by decide +kernel
theorem dX9_ints_16 : decode cX9_ints 16 = .ok (.iinc 2 1, 3) := by decide +kernel
theorem dX9_ints_19 : decode cX9_ints 19 = .ok (.goto (-17), 3) := by decide +kernel
theorem dX9_ints_22 : decode cX9_ints 22 = .ok (.iconst 1, 1) := by decide +kernel
theorem dX9_ints_23 : decode cX9_ints 23 = .ok (.ireturn, 1) := by decide +kernel
theorem dX9_parameters_0 : decode cX9_parameters 0 = .ok (.aload_n 0, 1) := by decide +kernel
theorem dX9_parameters_1 : decode cX9_parameters 1 = .ok (.getfield 38, 3) := by decide +kernel
theorem dX9_parameters_4 : decode cX9_parameters 4 = .ok (.iload_n 1, 1) := by decide +kernel
theorem dX9_parameters_5 : decode cX9_parameters 5 = .ok (.iaload, 1) := by decide +kernel
theorem dX9_parameters_6 : decode cX9_parameters 6 = .ok (.iconst 1, 1) := by decide +kernel
theorem dX9_parameters_7 : decode cX9_parameters 7 = .ok (.isub, 1) := by decide +kernel
theorem dX9_parameters_8 : decode cX9_parameters 8 = .ok (.istore_n 3, 1) := by decide +kernel
theorem dX9_parameters_9 : decode cX9_parameters 9 = .ok (.iload_n 3, 1) := by decide +kernel
theorem dX9_parameters_10 : decode cX9_parameters 10 = .ok (.iload_n 2, 1) := by decide +kernel
theorem dX9_parameters_11 : decode cX9_parameters 11 = .ok (.if_icmp .lt 29, 3) := by decide +kernel
theorem dX9_parameters_14 : decode cX9_parameters 14 = .ok (.aload_n 0, 1) := by decide +kernel
theorem dX9_parameters_15 : decode cX9_parameters 15 = .ok (.aload_n 0, 1) := by decide +kernel
theorem dX9_parameters_16 : decode cX9_parameters 16 = .ok (.getfield 41, 3) := by decide +kernel
theorem dX9_parameters_19 : decode cX9_parameters 19 = .ok (.bipush 8, 2) := by decide +kernel
theorem dX9_parameters_21 : decode cX9_parameters 21 = .ok (.iload_n 1, 1) := by decide +kernel
theorem dX9_parameters_22 : decode cX9_parameters 22 = .ok (.imul, 1) := by decide +kernel
theorem dX9_parameters_23 : decode cX9_parameters 23 = .ok (.iload_n 3, 1) := by decide +kernel
theorem dX9_parameters_24 : decode cX9_parameters 24 = .ok (.iadd, 1) := by decide +kernel
theorem dX9_parameters_25 : decode cX9_parameters 25 = .ok (.iaload, 1) := by decide +kernel
theorem dX9_parameters_26 : decode cX9_parameters 26 = .ok (.invokevirtual 144, 3) := by decide +kernel
theorem dX9_parameters_29 : decode cX9_parameters 29 = .ok (.ifCond .ne 5, 3) := by decide +kernel
theorem dX9_parameters_32 : decode cX9_parameters 32 = .ok (.iconst 0, 1) := by decide +kernel
theorem dX9_parameters_33 : decode cX9_parameters 33 = .ok (.ireturn, 1) := by decide +kernel
theorem dX9_parameters_34 : decode cX9_parameters 34 = .ok (.iinc 3 (-1), 3) := by decide +kernel
theorem dX9_parameters_37 : decode cX9_parameters 37 = .ok (.goto (-28), 3) := by decide +kernel
theorem dX9_parameters_40 : decode cX9_parameters 40 = .ok (.iconst 1, 1) := by decide +kernel
theorem dX9_parameters_41 : decode cX9_parameters 41 = .ok (.ireturn, 1) := by decide +kernel
theorem dX9_given_0 : decode cX9_given 0 = .ok (.aload_n 0, 1) := by decide +kernel
theorem dX9_given_1 : decode cX9_given 1 = .ok (.getfield 29, 3) := by decide +kernel
theorem dX9_given_4 : decode cX9_given 4 = .ok (.iload_n 1, 1) := by decide +kernel
theorem dX9_given_5 : decode cX9_given 5 = .ok (.iaload, 1) := by decide +kernel
theorem dX9_given_6 : decode cX9_given 6 = .ok (.ifCond .lt 16, 3) := by decide +kernel
theorem dX9_given_9 : decode cX9_given 9 = .ok (.aload_n 0, 1) := by decide +kernel
theorem dX9_given_10 : decode cX9_given 10 = .ok (.aload_n 0, 1) := by decide +kernel
theorem dX9_given_11 : decode cX9_given 11 = .ok (.getfield 29, 3) := by decide +kernel
theorem dX9_given_14 : decode cX9_given 14 = .ok (.iload_n 1, 1) := by decide +kernel
theorem dX9_given_15 : decode cX9_given 15 = .ok (.iaload, 1) := by decide +kernel
theorem dX9_given_16 : decode cX9_given 16 = .ok (.invokevirtual 147, 3) := by decide +kernel
theorem dX9_given_19 : decode cX9_given 19 = .ok (.ifCond .eq 7, 3) := by decide +kernel
theorem dX9_given_22 : decode cX9_given 22 = .ok (.iconst 1, 1) := by decide +kernel
theorem dX9_given_23 : decode cX9_given 23 = .ok (.goto 4, 3) := by decide +kernel
theorem dX9_given_26 : decode cX9_given 26 = .ok (.iconst 0, 1) := by decide +kernel
theorem dX9_given_27 : decode cX9_given 27 = .ok (.ireturn, 1) := by decide +kernel
theorem dX9_rows_0 : decode cX9_rows 0 = .ok (.iload_n 1, 1) := by decide +kernel
theorem dX9_rows_1 : decode cX9_rows 1 = .ok (.bipush 31, 2) := by decide +kernel
theorem dX9_rows_3 : decode cX9_rows 3 = .ok (.if_icmp .ne 28, 3) := by decide +kernel
theorem dX9_rows_6 : decode cX9_rows 6 = .ok (.aload_n 0, 1) := by decide +kernel
theorem dX9_rows_7 : decode cX9_rows 7 = .ok (.iconst 1, 1) := by decide +kernel
theorem dX9_rows_8 : decode cX9_rows 8 = .ok (.invokevirtual 150, 3) := by decide +kernel
theorem dX9_rows_11 : decode cX9_rows 11 = .ok (.ifCond .eq 18, 3) := by decide +kernel
theorem dX9_rows_14 : decode cX9_rows 14 = .ok (.aload_n 0, 1) := by decide +kernel
theorem dX9_rows_15 : decode cX9_rows 15 = .ok (.bipush 64, 2) := by decide +kernel
theorem dX9_rows_17 : decode cX9_rows 17 = .ok (.iload_n 2, 1) := by decide +kernel
theorem dX9_rows_18 : decode cX9_rows 18 = .ok (.iadd, 1) := by decide +kernel
theorem dX9_rows_19 : decode cX9_rows 19 = .ok (.invokevirtual 147, 3) := by decide +kernel
theorem dX9_rows_22 : decode cX9_rows 22 = .ok (.ifCond .eq 7, 3) := by decide +kernel
theorem dX9_rows_25 : decode cX9_rows 25 = .ok (.iconst 1, 1) := by decide +kernel
theorem dX9_rows_26 : decode cX9_rows 26 = .ok (.goto 4, 3) := by decide +kernel
theorem dX9_rows_29 : decode cX9_rows 29 = .ok (.iconst 0, 1) := by decide +kernel
theorem dX9_rows_30 : decode cX9_rows 30 = .ok (.ireturn, 1) := by decide +kernel
theorem dX9_rows_31 : decode cX9_rows 31 = .ok (.iload_n 1, 1) := by decide +kernel
theorem dX9_rows_32 : decode cX9_rows 32 = .ok (.bipush 34, 2) := by decide +kernel
theorem dX9_rows_34 : decode cX9_rows 34 = .ok (.if_icmp .ne 77, 3) := by decide +kernel
theorem dX9_rows_37 : decode cX9_rows 37 = .ok (.aload_n 0, 1) := by decide +kernel
theorem dX9_rows_38 : decode cX9_rows 38 = .ok (.invokevirtual 137, 3) := by decide +kernel
theorem dX9_rows_41 : decode cX9_rows 41 = .ok (.istore_n 3, 1) := by decide +kernel
theorem dX9_rows_42 : decode cX9_rows 42 = .ok (.iload_n 3, 1) := by decide +kernel
theorem dX9_rows_43 : decode cX9_rows 43 = .ok (.iconst (-1), 1) := by decide +kernel
theorem dX9_rows_44 : decode cX9_rows 44 = .ok (.if_icmp .eq 15, 3) := by decide +kernel
theorem dX9_rows_47 : decode cX9_rows 47 = .ok (.aload_n 0, 1) := by decide +kernel
theorem dX9_rows_48 : decode cX9_rows 48 = .ok (.iconst 1, 1) := by decide +kernel
theorem dX9_rows_49 : decode cX9_rows 49 = .ok (.invokevirtual 150, 3) := by decide +kernel
theorem dX9_rows_52 : decode cX9_rows 52 = .ok (.ifCond .eq 7, 3) := by decide +kernel
theorem dX9_rows_55 : decode cX9_rows 55 = .ok (.iconst 1, 1) := by decide +kernel
theorem dX9_rows_56 : decode cX9_rows 56 = .ok (.goto 4, 3) := by decide +kernel
theorem dX9_rows_59 : decode cX9_rows 59 = .ok (.iconst 0, 1) := by decide +kernel
theorem dX9_rows_60 : decode cX9_rows 60 = .ok (.istore 4, 2) := by decide +kernel
theorem dX9_rows_62 : decode cX9_rows 62 = .ok (.iload 4, 2) := by decide +kernel
theorem dX9_rows_64 : decode cX9_rows 64 = .ok (.ifCond .eq 10, 3) := by decide +kernel
theorem dX9_rows_67 : decode cX9_rows 67 = .ok (.aload_n 0, 1) := by decide +kernel
theorem dX9_rows_68 : decode cX9_rows 68 = .ok (.invokevirtual 137, 3) := by decide +kernel
theorem dX9_rows_71 : decode cX9_rows 71 = .ok (.goto 4, 3) := by decide +kernel
theorem dX9_rows_74 : decode cX9_rows 74 = .ok (.iconst (-1), 1) := by decide +kernel
theorem dX9_rows_75 : decode cX9_rows 75 = .ok (.istore 5, 2) := by decide +kernel
theorem dX9_rows_77 : decode cX9_rows 77 = .ok (.iload 5, 2) := by decide +kernel
theorem dX9_rows_79 : decode cX9_rows 79 = .ok (.bipush 97, 2) := by decide +kernel
theorem dX9_rows_81 : decode cX9_rows 81 = .ok (.if_icmp .eq 24, 3) := by decide +kernel
theorem dX9_rows_84 : decode cX9_rows 84 = .ok (.iload 5, 2) := by decide +kernel
theorem dX9_rows_86 : decode cX9_rows 86 = .ok (.invokestatic 153, 3) := by decide +kernel
theorem dX9_rows_89 : decode cX9_rows 89 = .ok (.ifCond .eq 20, 3) := by decide +kernel
theorem dX9_rows_92 : decode cX9_rows 92 = .ok (.aload_n 0, 1) := by decide +kernel
theorem dX9_rows_93 : decode cX9_rows 93 = .ok (.iload_n 3, 1) := by decide +kernel
theorem dX9_rows_94 : decode cX9_rows 94 = .ok (.iload 5, 2) := by decide +kernel
theorem dX9_rows_96 : decode cX9_rows 96 = .ok (.bipush 64, 2) := by decide +kernel
theorem dX9_rows_98 : decode cX9_rows 98 = .ok (.isub, 1) := by decide +kernel
theorem dX9_rows_99 : decode cX9_rows 99 = .ok (.invokevirtual 141, 3) := by decide +kernel
theorem dX9_rows_102 : decode cX9_rows 102 = .ok (.ifCond .eq 7, 3) := by decide +kernel
theorem dX9_rows_105 : decode cX9_rows 105 = .ok (.iconst 1, 1) := by decide +kernel
theorem dX9_rows_106 : decode cX9_rows 106 = .ok (.goto 4, 3) := by decide +kernel
theorem dX9_rows_109 : decode cX9_rows 109 = .ok (.iconst 0, 1) := by decide +kernel
theorem dX9_rows_110 : decode cX9_rows 110 = .ok (.ireturn, 1) := by decide +kernel
theorem dX9_rows_111 : decode cX9_rows 111 = .ok (.iload_n 1, 1) := by decide +kernel
theorem dX9_rows_112 : decode cX9_rows 112 = .ok (.bipush 32, 2) := by decide +kernel
theorem dX9_rows_114 : decode cX9_rows 114 = .ok (.if_icmp .eq 11, 3) := by decide +kernel
theorem dX9_rows_117 : decode cX9_rows 117 = .ok (.aload_n 0, 1) := by decide +kernel
theorem dX9_rows_118 : decode cX9_rows 118 = .ok (.iconst 1, 1) := by decide +kernel
theorem dX9_rows_119 : decode cX9_rows 119 = .ok (.invokevirtual 150, 3) := by decide +kernel
theorem dX9_rows_122 : decode cX9_rows 122 = .ok (.ifCond .eq 7, 3) := by decide +kernel
theorem dX9_rows_125 : decode cX9_rows 125 = .ok (.iconst 1, 1) := by decide +kernel
theorem dX9_rows_126 : decode cX9_rows 126 = .ok (.goto 4, 3) := by decide +kernel
theorem dX9_rows_129 : decode cX9_rows 129 = .ok (.iconst 0, 1) := by decide +kernel
theorem dX9_rows_130 : decode cX9_rows 130 = .ok (.istore_n 3, 1) := by decide +kernel
theorem dX9_rows_131 : decode cX9_rows 131 = .ok (.iload_n 3, 1) := by decide +kernel
theorem dX9_rows_132 : decode cX9_rows 132 = .ok (.ifCond .eq 10, 3) := by decide +kernel
theorem dX9_rows_135 : decode cX9_rows 135 = .ok (.aload_n 0, 1) := by decide +kernel
theorem dX9_rows_136 : decode cX9_rows 136 = .ok (.invokevirtual 137, 3) := by decide +kernel
theorem dX9_rows_139 : decode cX9_rows 139 = .ok (.goto 4, 3) := by decide +kernel
theorem dX9_rows_142 : decode cX9_rows 142 = .ok (.iconst (-1), 1) := by decide +kernel
theorem dX9_rows_143 : decode cX9_rows 143 = .ok (.istore 4, 2) := by decide +kernel
theorem dX9_rows_145 : decode cX9_rows 145 = .ok (.iload 4, 2) := by decide +kernel
theorem dX9_rows_147 : decode cX9_rows 147 = .ok (.bipush 97, 2) := by decide +kernel
theorem dX9_rows_149 : decode cX9_rows 149 = .ok (.if_icmp .eq 11, 3) := by decide +kernel
theorem dX9_rows_152 : decode cX9_rows 152 = .ok (.iload 4, 2) := by decide +kernel
theorem dX9_rows_154 : decode cX9_rows 154 = .ok (.invokestatic 153, 3) := by decide +kernel
theorem dX9_rows_157 : decode cX9_rows 157 = .ok (.ifCond .eq 7, 3) := by decide +kernel
theorem dX9_rows_160 : decode cX9_rows 160 = .ok (.iconst 1, 1) := by decide +kernel
theorem dX9_rows_161 : decode cX9_rows 161 = .ok (.goto 4, 3) := by decide +kernel
theorem dX9_rows_164 : decode cX9_rows 164 = .ok (.iconst 0, 1) := by decide +kernel
theorem dX9_rows_165 : decode cX9_rows 165 = .ok (.istore 5, 2) := by decide +kernel
theorem dX9_rows_167 : decode cX9_rows 167 = .ok (.iload 5, 2) := by decide +kernel
theorem dX9_rows_169 : decode cX9_rows 169 = .ok (.ifCond .eq 41, 3) := by decide +kernel
theorem dX9_rows_172 : decode cX9_rows 172 = .ok (.aload_n 0, 1) := by decide +kernel
theorem dX9_rows_173 : decode cX9_rows 173 = .ok (.iload_n 1, 1) := by decide +kernel
theorem dX9_rows_174 : decode cX9_rows 174 = .ok (.bipush 32, 2) := by decide +kernel
theorem dX9_rows_176 : decode cX9_rows 176 = .ok (.if_icmp .ne 7, 3) := by decide +kernel
theorem dX9_rows_179 : decode cX9_rows 179 = .ok (.iconst 0, 1) := by decide +kernel
theorem dX9_rows_180 : decode cX9_rows 180 = .ok (.goto 20, 3) := by decide +kernel
theorem dX9_rows_183 : decode cX9_rows 183 = .ok (.iload 4, 2) := by decide +kernel
theorem dX9_rows_185 : decode cX9_rows 185 = .ok (.bipush 97, 2) := by decide +kernel
theorem dX9_rows_187 : decode cX9_rows 187 = .ok (.if_icmp .ne 8, 3) := by decide +kernel
theorem dX9_rows_190 : decode cX9_rows 190 = .ok (.bipush 97, 2) := by decide +kernel
theorem dX9_rows_192 : decode cX9_rows 192 = .ok (.goto 8, 3) := by decide +kernel
theorem dX9_rows_195 : decode cX9_rows 195 = .ok (.iload 4, 2) := by decide +kernel
theorem dX9_rows_197 : decode cX9_rows 197 = .ok (.bipush 64, 2) := by decide +kernel
theorem dX9_rows_199 : decode cX9_rows 199 = .ok (.isub, 1) := by decide +kernel
theorem dX9_rows_200 : decode cX9_rows 200 = .ok (.invokevirtual 147, 3) := by decide +kernel
theorem dX9_rows_203 : decode cX9_rows 203 = .ok (.ifCond .eq 7, 3) := by decide +kernel
theorem dX9_rows_206 : decode cX9_rows 206 = .ok (.iconst 1, 1) := by decide +kernel
theorem dX9_rows_207 : decode cX9_rows 207 = .ok (.goto 4, 3) := by decide +kernel
theorem dX9_rows_210 : decode cX9_rows 210 = .ok (.iconst 0, 1) := by decide +kernel
theorem dX9_rows_211 : decode cX9_rows 211 = .ok (.ireturn, 1) := by decide +kernel
theorem dX9_places_0 : decode cX9_places 0 = .ok (.iconst (-1), 1) := by decide +kernel
theorem dX9_places_1 : decode cX9_places 1 = .ok (.istore 4, 2) := by decide +kernel
theorem dX9_places_3 : decode cX9_places 3 = .ok (.iconst (-1), 1) := by decide +kernel
theorem dX9_places_4 : decode cX9_places 4 = .ok (.istore 5, 2) := by decide +kernel
theorem dX9_places_6 : decode cX9_places 6 = .ok (.iload_n 2, 1) := by decide +kernel
theorem dX9_places_7 : decode cX9_places 7 = .ok (.tableswitch 150 2 5 #[29, 59, 100, 114], 29) := by decide +kernel
theorem dX9_places_36 : decode cX9_places 36 = .ok (.aload_n 0, 1) := by decide +kernel
theorem dX9_places_37 : decode cX9_places 37 = .ok (.getfield 87, 3) := by decide +kernel
theorem dX9_places_40 : decode cX9_places 40 = .ok (.iload_n 3, 1) := by decide +kernel
theorem dX9_places_41 : decode cX9_places 41 = .ok (.iaload, 1) := by decide +kernel
theorem dX9_places_42 : decode cX9_places 42 = .ok (.bipush 99, 2) := by decide +kernel
theorem dX9_places_44 : decode cX9_places 44 = .ok (.if_icmp .eq 20, 3) := by decide +kernel
theorem dX9_places_47 : decode cX9_places 47 = .ok (.aload_n 0, 1) := by decide +kernel
theorem dX9_places_48 : decode cX9_places 48 = .ok (.aload_n 0, 1) := by decide +kernel
theorem dX9_places_49 : decode cX9_places 49 = .ok (.getfield 87, 3) := by decide +kernel
theorem dX9_places_52 : decode cX9_places 52 = .ok (.iload_n 3, 1) := by decide +kernel
theorem dX9_places_53 : decode cX9_places 53 = .ok (.iaload, 1) := by decide +kernel
theorem dX9_places_54 : decode cX9_places 54 = .ok (.invokevirtual 147, 3) := by decide +kernel
theorem dX9_places_57 : decode cX9_places 57 = .ok (.ifCond .eq 7, 3) := by decide +kernel
theorem dX9_places_60 : decode cX9_places 60 = .ok (.iconst 1, 1) := by decide +kernel
theorem dX9_places_61 : decode cX9_places 61 = .ok (.goto 4, 3) := by decide +kernel
theorem dX9_places_64 : decode cX9_places 64 = .ok (.iconst 0, 1) := by decide +kernel
theorem dX9_places_65 : decode cX9_places 65 = .ok (.ireturn, 1) := by decide +kernel
theorem dX9_places_66 : decode cX9_places 66 = .ok (.aload_n 0, 1) := by decide +kernel
theorem dX9_places_67 : decode cX9_places 67 = .ok (.invokevirtual 137, 3) := by decide +kernel
theorem dX9_places_70 : decode cX9_places 70 = .ok (.istore 4, 2) := by decide +kernel
theorem dX9_places_72 : decode cX9_places 72 = .ok (.aload_n 0, 1) := by decide +kernel
theorem dX9_places_73 : decode cX9_places 73 = .ok (.getfield 87, 3) := by decide +kernel
theorem dX9_places_76 : decode cX9_places 76 = .ok (.iload_n 3, 1) := by decide +kernel
theorem dX9_places_77 : decode cX9_places 77 = .ok (.iload 4, 2) := by decide +kernel
theorem dX9_places_79 : decode cX9_places 79 = .ok (.iconst (-1), 1) := by decide +kernel
theorem dX9_places_80 : decode cX9_places 80 = .ok (.if_icmp .ne 12, 3) := by decide +kernel
theorem dX9_places_83 : decode cX9_places 83 = .ok (.aload_n 0, 1) := by decide +kernel
theorem dX9_places_84 : decode cX9_places 84 = .ok (.getfield 87, 3) := by decide +kernel
theorem dX9_places_87 : decode cX9_places 87 = .ok (.iload_n 3, 1) := by decide +kernel
theorem dX9_places_88 : decode cX9_places 88 = .ok (.iaload, 1) := by decide +kernel
theorem dX9_places_89 : decode cX9_places 89 = .ok (.goto 5, 3) := by decide +kernel
theorem dX9_places_92 : decode cX9_places 92 = .ok (.iload 4, 2) := by decide +kernel
theorem dX9_places_94 : decode cX9_places 94 = .ok (.iastore, 1) := by decide +kernel
theorem dX9_places_95 : decode cX9_places 95 = .ok (.iload 4, 2) := by decide +kernel
theorem dX9_places_97 : decode cX9_places 97 = .ok (.iconst (-1), 1) := by decide +kernel
theorem dX9_places_98 : decode cX9_places 98 = .ok (.if_icmp .eq 7, 3) := by decide +kernel
theorem dX9_places_101 : decode cX9_places 101 = .ok (.iconst 1, 1) := by decide +kernel
theorem dX9_places_102 : decode cX9_places 102 = .ok (.goto 4, 3) := by decide +kernel
theorem dX9_places_105 : decode cX9_places 105 = .ok (.iconst 0, 1) := by decide +kernel
theorem dX9_places_106 : decode cX9_places 106 = .ok (.ireturn, 1) := by decide +kernel
theorem dX9_places_107 : decode cX9_places 107 = .ok (.aload_n 0, 1) := by decide +kernel
theorem dX9_places_108 : decode cX9_places 108 = .ok (.invokevirtual 137, 3) := by decide +kernel
theorem dX9_places_111 : decode cX9_places 111 = .ok (.iconst (-1), 1) := by decide +kernel
theorem dX9_places_112 : decode cX9_places 112 = .ok (.if_icmp .eq 7, 3) := by decide +kernel
theorem dX9_places_115 : decode cX9_places 115 = .ok (.iconst 1, 1) := by decide +kernel
theorem dX9_places_116 : decode cX9_places 116 = .ok (.goto 4, 3) := by decide +kernel
theorem dX9_places_119 : decode cX9_places 119 = .ok (.iconst 0, 1) := by decide +kernel
theorem dX9_places_120 : decode cX9_places 120 = .ok (.ireturn, 1) := by decide +kernel
theorem dX9_places_121 : decode cX9_places 121 = .ok (.aload_n 0, 1) := by decide +kernel
theorem dX9_places_122 : decode cX9_places 122 = .ok (.invokevirtual 137, 3) := by decide +kernel
theorem dX9_places_125 : decode cX9_places 125 = .ok (.istore 4, 2) := by decide +kernel
theorem dX9_places_127 : decode cX9_places 127 = .ok (.iload 4, 2) := by decide +kernel
theorem dX9_places_129 : decode cX9_places 129 = .ok (.iconst (-1), 1) := by decide +kernel
theorem dX9_places_130 : decode cX9_places 130 = .ok (.if_icmp .eq 25, 3) := by decide +kernel
theorem dX9_places_133 : decode cX9_places 133 = .ok (.aload_n 0, 1) := by decide +kernel
theorem dX9_places_134 : decode cX9_places 134 = .ok (.iload 4, 2) := by decide +kernel
theorem dX9_places_136 : decode cX9_places 136 = .ok (.invokevirtual 147, 3) := by decide +kernel
theorem dX9_places_139 : decode cX9_places 139 = .ok (.ifCond .eq 16, 3) := by decide +kernel
theorem dX9_places_142 : decode cX9_places 142 = .ok (.aload_n 0, 1) := by decide +kernel
theorem dX9_places_143 : decode cX9_places 143 = .ok (.iload 4, 2) := by decide +kernel
theorem dX9_places_145 : decode cX9_places 145 = .ok (.invokevirtual 147, 3) := by decide +kernel
theorem dX9_places_148 : decode cX9_places 148 = .ok (.ifCond .eq 7, 3) := by decide +kernel
end
section
theorem dX9_places_151 : decode cX9_places 151 = .ok (.iconst 1, 1) := by decide +kernel
theorem dX9_places_152 : decode cX9_places 152 = .ok (.goto 4, 3) := by decide +kernel
theorem dX9_places_155 : decode cX9_places 155 = .ok (.iconst 0, 1) := by decide +kernel
theorem dX9_places_156 : decode cX9_places 156 = .ok (.ireturn, 1) := by decide +kernel
theorem dX9_places_157 : decode cX9_places 157 = .ok (.aload_n 0, 1) := by decide +kernel
theorem dX9_places_158 : decode cX9_places 158 = .ok (.invokevirtual 137, 3) := by decide +kernel
theorem dX9_places_161 : decode cX9_places 161 = .ok (.istore 4, 2) := by decide +kernel
theorem dX9_places_163 : decode cX9_places 163 = .ok (.iload 4, 2) := by decide +kernel
theorem dX9_places_165 : decode cX9_places 165 = .ok (.iconst (-1), 1) := by decide +kernel
theorem dX9_places_166 : decode cX9_places 166 = .ok (.if_icmp .ne 7, 3) := by decide +kernel
theorem dX9_places_169 : decode cX9_places 169 = .ok (.iconst (-1), 1) := by decide +kernel
theorem dX9_places_170 : decode cX9_places 170 = .ok (.goto 7, 3) := by decide +kernel
theorem dX9_places_173 : decode cX9_places 173 = .ok (.aload_n 0, 1) := by decide +kernel
theorem dX9_places_174 : decode cX9_places 174 = .ok (.invokevirtual 137, 3) := by decide +kernel
theorem dX9_places_177 : decode cX9_places 177 = .ok (.istore 5, 2) := by decide +kernel
theorem dX9_places_179 : decode cX9_places 179 = .ok (.iload 5, 2) := by decide +kernel
theorem dX9_places_181 : decode cX9_places 181 = .ok (.iconst (-1), 1) := by decide +kernel
theorem dX9_places_182 : decode cX9_places 182 = .ok (.if_icmp .eq 25, 3) := by decide +kernel
theorem dX9_places_185 : decode cX9_places 185 = .ok (.aload_n 0, 1) := by decide +kernel
theorem dX9_places_186 : decode cX9_places 186 = .ok (.iload 4, 2) := by decide +kernel
theorem dX9_places_188 : decode cX9_places 188 = .ok (.invokevirtual 147, 3) := by decide +kernel
theorem dX9_places_191 : decode cX9_places 191 = .ok (.ifCond .eq 16, 3) := by decide +kernel
theorem dX9_places_194 : decode cX9_places 194 = .ok (.aload_n 0, 1) := by decide +kernel
theorem dX9_places_195 : decode cX9_places 195 = .ok (.iload 5, 2) := by decide +kernel
theorem dX9_places_197 : decode cX9_places 197 = .ok (.invokevirtual 147, 3) := by decide +kernel
theorem dX9_places_200 : decode cX9_places 200 = .ok (.ifCond .eq 7, 3) := by decide +kernel
theorem dX9_places_203 : decode cX9_places 203 = .ok (.iconst 1, 1) := by decide +kernel
theorem dX9_places_204 : decode cX9_places 204 = .ok (.goto 4, 3) := by decide +kernel
theorem dX9_places_207 : decode cX9_places 207 = .ok (.iconst 0, 1) := by decide +kernel
theorem dX9_places_208 : decode cX9_places 208 = .ok (.ireturn, 1) := by decide +kernel
theorem dX9_fits_0 : decode cX9_fits 0 = .ok (.iload_n 2, 1) := by decide +kernel
theorem dX9_fits_1 : decode cX9_fits 1 = .ok (.ifCond .eq 9, 3) := by decide +kernel
theorem dX9_fits_4 : decode cX9_fits 4 = .ok (.iload_n 2, 1) := by decide +kernel
theorem dX9_fits_5 : decode cX9_fits 5 = .ok (.bipush 40, 2) := by decide +kernel
theorem dX9_fits_7 : decode cX9_fits 7 = .ok (.if_icmp .ne 9, 3) := by decide +kernel
theorem dX9_fits_10 : decode cX9_fits 10 = .ok (.aload_n 0, 1) := by decide +kernel
theorem dX9_fits_11 : decode cX9_fits 11 = .ok (.iconst 0, 1) := by decide +kernel
theorem dX9_fits_12 : decode cX9_fits 12 = .ok (.invokevirtual 147, 3) := by decide +kernel
theorem dX9_fits_15 : decode cX9_fits 15 = .ok (.ireturn, 1) := by decide +kernel
theorem dX9_fits_16 : decode cX9_fits 16 = .ok (.iload_n 2, 1) := by decide +kernel
theorem dX9_fits_17 : decode cX9_fits 17 = .ok (.iconst 1, 1) := by decide +kernel
theorem dX9_fits_18 : decode cX9_fits 18 = .ok (.if_icmp .ne 10, 3) := by decide +kernel
theorem dX9_fits_21 : decode cX9_fits 21 = .ok (.aload_n 0, 1) := by decide +kernel
theorem dX9_fits_22 : decode cX9_fits 22 = .ok (.bipush 97, 2) := by decide +kernel
theorem dX9_fits_24 : decode cX9_fits 24 = .ok (.invokevirtual 147, 3) := by decide +kernel
theorem dX9_fits_27 : decode cX9_fits 27 = .ok (.ireturn, 1) := by decide +kernel
theorem dX9_fits_28 : decode cX9_fits 28 = .ok (.iload_n 2, 1) := by decide +kernel
theorem dX9_fits_29 : decode cX9_fits 29 = .ok (.bipush 7, 2) := by decide +kernel
theorem dX9_fits_31 : decode cX9_fits 31 = .ok (.if_icmp .ge 11, 3) := by decide +kernel
theorem dX9_fits_34 : decode cX9_fits 34 = .ok (.aload_n 0, 1) := by decide +kernel
theorem dX9_fits_35 : decode cX9_fits 35 = .ok (.iload_n 1, 1) := by decide +kernel
theorem dX9_fits_36 : decode cX9_fits 36 = .ok (.iload_n 2, 1) := by decide +kernel
theorem dX9_fits_37 : decode cX9_fits 37 = .ok (.iload_n 3, 1) := by decide +kernel
theorem dX9_fits_38 : decode cX9_fits 38 = .ok (.invokevirtual 156, 3) := by decide +kernel
theorem dX9_fits_41 : decode cX9_fits 41 = .ok (.ireturn, 1) := by decide +kernel
theorem dX9_fits_42 : decode cX9_fits 42 = .ok (.iload_n 2, 1) := by decide +kernel
theorem dX9_fits_43 : decode cX9_fits 43 = .ok (.bipush 19, 2) := by decide +kernel
theorem dX9_fits_45 : decode cX9_fits 45 = .ok (.if_icmp .ge 35, 3) := by decide +kernel
theorem dX9_fits_48 : decode cX9_fits 48 = .ok (.aload_n 0, 1) := by decide +kernel
theorem dX9_fits_49 : decode cX9_fits 49 = .ok (.iload_n 2, 1) := by decide +kernel
theorem dX9_fits_50 : decode cX9_fits 50 = .ok (.bipush 18, 2) := by decide +kernel
theorem dX9_fits_52 : decode cX9_fits 52 = .ok (.if_icmp .ge 7, 3) := by decide +kernel
theorem dX9_fits_55 : decode cX9_fits 55 = .ok (.iconst 2, 1) := by decide +kernel
theorem dX9_fits_56 : decode cX9_fits 56 = .ok (.goto 4, 3) := by decide +kernel
theorem dX9_fits_59 : decode cX9_fits 59 = .ok (.iconst 1, 1) := by decide +kernel
theorem dX9_fits_60 : decode cX9_fits 60 = .ok (.invokevirtual 150, 3) := by decide +kernel
theorem dX9_fits_63 : decode cX9_fits 63 = .ok (.ifCond .eq 15, 3) := by decide +kernel
theorem dX9_fits_66 : decode cX9_fits 66 = .ok (.aload_n 0, 1) := by decide +kernel
theorem dX9_fits_67 : decode cX9_fits 67 = .ok (.iconst 0, 1) := by decide +kernel
theorem dX9_fits_68 : decode cX9_fits 68 = .ok (.invokevirtual 147, 3) := by decide +kernel
theorem dX9_fits_71 : decode cX9_fits 71 = .ok (.ifCond .eq 7, 3) := by decide +kernel
theorem dX9_fits_74 : decode cX9_fits 74 = .ok (.iconst 1, 1) := by decide +kernel
theorem dX9_fits_75 : decode cX9_fits 75 = .ok (.goto 4, 3) := by decide +kernel
theorem dX9_fits_78 : decode cX9_fits 78 = .ok (.iconst 0, 1) := by decide +kernel
theorem dX9_fits_79 : decode cX9_fits 79 = .ok (.ireturn, 1) := by decide +kernel
theorem dX9_fits_80 : decode cX9_fits 80 = .ok (.iload_n 2, 1) := by decide +kernel
theorem dX9_fits_81 : decode cX9_fits 81 = .ok (.tableswitch 416 19 41 #[107, 113, 119, 119, 124, 124, 144, 146, 154, 189, 224, 245, 416, 416, 416, 416, 268, 291, 346, 361, 389, 416, 107], 107) := by decide +kernel
theorem dX9_fits_188 : decode cX9_fits 188 = .ok (.aload_n 0, 1) := by decide +kernel
theorem dX9_fits_189 : decode cX9_fits 189 = .ok (.iconst 1, 1) := by decide +kernel
theorem dX9_fits_190 : decode cX9_fits 190 = .ok (.invokevirtual 150, 3) := by decide +kernel
theorem dX9_fits_193 : decode cX9_fits 193 = .ok (.ireturn, 1) := by decide +kernel
theorem dX9_fits_194 : decode cX9_fits 194 = .ok (.aload_n 0, 1) := by decide +kernel
theorem dX9_fits_195 : decode cX9_fits 195 = .ok (.iconst 2, 1) := by decide +kernel
theorem dX9_fits_196 : decode cX9_fits 196 = .ok (.invokevirtual 150, 3) := by decide +kernel
theorem dX9_fits_199 : decode cX9_fits 199 = .ok (.ireturn, 1) := by decide +kernel
theorem dX9_fits_200 : decode cX9_fits 200 = .ok (.aload_n 0, 1) := by decide +kernel
theorem dX9_fits_201 : decode cX9_fits 201 = .ok (.invokevirtual 160, 3) := by decide +kernel
theorem dX9_fits_204 : decode cX9_fits 204 = .ok (.ireturn, 1) := by decide +kernel
theorem dX9_fits_205 : decode cX9_fits 205 = .ok (.aload_n 0, 1) := by decide +kernel
theorem dX9_fits_206 : decode cX9_fits 206 = .ok (.invokevirtual 160, 3) := by decide +kernel
theorem dX9_fits_209 : decode cX9_fits 209 = .ok (.ifCond .eq 14, 3) := by decide +kernel
theorem dX9_fits_212 : decode cX9_fits 212 = .ok (.aload_n 0, 1) := by decide +kernel
theorem dX9_fits_213 : decode cX9_fits 213 = .ok (.invokevirtual 160, 3) := by decide +kernel
theorem dX9_fits_216 : decode cX9_fits 216 = .ok (.ifCond .eq 7, 3) := by decide +kernel
theorem dX9_fits_219 : decode cX9_fits 219 = .ok (.iconst 1, 1) := by decide +kernel
theorem dX9_fits_220 : decode cX9_fits 220 = .ok (.goto 4, 3) := by decide +kernel
theorem dX9_fits_223 : decode cX9_fits 223 = .ok (.iconst 0, 1) := by decide +kernel
theorem dX9_fits_224 : decode cX9_fits 224 = .ok (.ireturn, 1) := by decide +kernel
theorem dX9_fits_225 : decode cX9_fits 225 = .ok (.iconst 1, 1) := by decide +kernel
theorem dX9_fits_226 : decode cX9_fits 226 = .ok (.ireturn, 1) := by decide +kernel
theorem dX9_fits_227 : decode cX9_fits 227 = .ok (.aload_n 0, 1) := by decide +kernel
theorem dX9_fits_228 : decode cX9_fits 228 = .ok (.iconst 1, 1) := by decide +kernel
theorem dX9_fits_229 : decode cX9_fits 229 = .ok (.iload_n 3, 1) := by decide +kernel
theorem dX9_fits_230 : decode cX9_fits 230 = .ok (.iadd, 1) := by decide +kernel
theorem dX9_fits_231 : decode cX9_fits 231 = .ok (.invokevirtual 147, 3) := by decide +kernel
theorem dX9_fits_234 : decode cX9_fits 234 = .ok (.ireturn, 1) := by decide +kernel
theorem dX9_fits_235 : decode cX9_fits 235 = .ok (.aload_n 0, 1) := by decide +kernel
theorem dX9_fits_236 : decode cX9_fits 236 = .ok (.iconst 1, 1) := by decide +kernel
theorem dX9_fits_237 : decode cX9_fits 237 = .ok (.iload_n 3, 1) := by decide +kernel
theorem dX9_fits_238 : decode cX9_fits 238 = .ok (.iadd, 1) := by decide +kernel
theorem dX9_fits_239 : decode cX9_fits 239 = .ok (.invokevirtual 144, 3) := by decide +kernel
theorem dX9_fits_242 : decode cX9_fits 242 = .ok (.ifCond .eq 26, 3) := by decide +kernel
theorem dX9_fits_245 : decode cX9_fits 245 = .ok (.aload_n 0, 1) := by decide +kernel
theorem dX9_fits_246 : decode cX9_fits 246 = .ok (.aload_n 0, 1) := by decide +kernel
theorem dX9_fits_247 : decode cX9_fits 247 = .ok (.getfield 20, 3) := by decide +kernel
theorem dX9_fits_250 : decode cX9_fits 250 = .ok (.bipush 15, 2) := by decide +kernel
theorem dX9_fits_252 : decode cX9_fits 252 = .ok (.iload_n 3, 1) := by decide +kernel
theorem dX9_fits_253 : decode cX9_fits 253 = .ok (.imul, 1) := by decide +kernel
theorem dX9_fits_254 : decode cX9_fits 254 = .ok (.iload 4, 2) := by decide +kernel
theorem dX9_fits_256 : decode cX9_fits 256 = .ok (.iadd, 1) := by decide +kernel
theorem dX9_fits_257 : decode cX9_fits 257 = .ok (.iaload, 1) := by decide +kernel
theorem dX9_fits_258 : decode cX9_fits 258 = .ok (.invokevirtual 147, 3) := by decide +kernel
theorem dX9_fits_261 : decode cX9_fits 261 = .ok (.ifCond .eq 7, 3) := by decide +kernel
theorem dX9_fits_264 : decode cX9_fits 264 = .ok (.iconst 1, 1) := by decide +kernel
theorem dX9_fits_265 : decode cX9_fits 265 = .ok (.goto 4, 3) := by decide +kernel
theorem dX9_fits_268 : decode cX9_fits 268 = .ok (.iconst 0, 1) := by decide +kernel
theorem dX9_fits_269 : decode cX9_fits 269 = .ok (.ireturn, 1) := by decide +kernel
theorem dX9_fits_270 : decode cX9_fits 270 = .ok (.aload_n 0, 1) := by decide +kernel
theorem dX9_fits_271 : decode cX9_fits 271 = .ok (.aload_n 0, 1) := by decide +kernel
theorem dX9_fits_272 : decode cX9_fits 272 = .ok (.getfield 20, 3) := by decide +kernel
theorem dX9_fits_275 : decode cX9_fits 275 = .ok (.bipush 15, 2) := by decide +kernel
theorem dX9_fits_277 : decode cX9_fits 277 = .ok (.iload_n 3, 1) := by decide +kernel
theorem dX9_fits_278 : decode cX9_fits 278 = .ok (.imul, 1) := by decide +kernel
theorem dX9_fits_279 : decode cX9_fits 279 = .ok (.iload 4, 2) := by decide +kernel
theorem dX9_fits_281 : decode cX9_fits 281 = .ok (.iadd, 1) := by decide +kernel
theorem dX9_fits_282 : decode cX9_fits 282 = .ok (.iaload, 1) := by decide +kernel
theorem dX9_fits_283 : decode cX9_fits 283 = .ok (.invokevirtual 144, 3) := by decide +kernel
theorem dX9_fits_286 : decode cX9_fits 286 = .ok (.ifCond .eq 17, 3) := by decide +kernel
theorem dX9_fits_289 : decode cX9_fits 289 = .ok (.aload_n 0, 1) := by decide +kernel
theorem dX9_fits_290 : decode cX9_fits 290 = .ok (.iconst 1, 1) := by decide +kernel
theorem dX9_fits_291 : decode cX9_fits 291 = .ok (.iload_n 3, 1) := by decide +kernel
theorem dX9_fits_292 : decode cX9_fits 292 = .ok (.iadd, 1) := by decide +kernel
theorem dX9_fits_293 : decode cX9_fits 293 = .ok (.invokevirtual 144, 3) := by decide +kernel
theorem dX9_fits_296 : decode cX9_fits 296 = .ok (.ifCond .eq 7, 3) := by decide +kernel
theorem dX9_fits_299 : decode cX9_fits 299 = .ok (.iconst 1, 1) := by decide +kernel
theorem dX9_fits_300 : decode cX9_fits 300 = .ok (.goto 4, 3) := by decide +kernel
theorem dX9_fits_303 : decode cX9_fits 303 = .ok (.iconst 0, 1) := by decide +kernel
theorem dX9_fits_304 : decode cX9_fits 304 = .ok (.ireturn, 1) := by decide +kernel
theorem dX9_fits_305 : decode cX9_fits 305 = .ok (.aload_n 0, 1) := by decide +kernel
theorem dX9_fits_306 : decode cX9_fits 306 = .ok (.invokevirtual 160, 3) := by decide +kernel
theorem dX9_fits_309 : decode cX9_fits 309 = .ok (.ifCond .eq 15, 3) := by decide +kernel
theorem dX9_fits_312 : decode cX9_fits 312 = .ok (.aload_n 0, 1) := by decide +kernel
theorem dX9_fits_313 : decode cX9_fits 313 = .ok (.iconst 0, 1) := by decide +kernel
theorem dX9_fits_314 : decode cX9_fits 314 = .ok (.invokevirtual 147, 3) := by decide +kernel
theorem dX9_fits_317 : decode cX9_fits 317 = .ok (.ifCond .eq 7, 3) := by decide +kernel
theorem dX9_fits_320 : decode cX9_fits 320 = .ok (.iconst 1, 1) := by decide +kernel
theorem dX9_fits_321 : decode cX9_fits 321 = .ok (.goto 4, 3) := by decide +kernel
theorem dX9_fits_324 : decode cX9_fits 324 = .ok (.iconst 0, 1) := by decide +kernel
theorem dX9_fits_325 : decode cX9_fits 325 = .ok (.ireturn, 1) := by decide +kernel
theorem dX9_fits_326 : decode cX9_fits 326 = .ok (.aload_n 0, 1) := by decide +kernel
theorem dX9_fits_327 : decode cX9_fits 327 = .ok (.invokevirtual 160, 3) := by decide +kernel
theorem dX9_fits_330 : decode cX9_fits 330 = .ok (.ifCond .eq 17, 3) := by decide +kernel
theorem dX9_fits_333 : decode cX9_fits 333 = .ok (.aload_n 0, 1) := by decide +kernel
theorem dX9_fits_334 : decode cX9_fits 334 = .ok (.iconst 1, 1) := by decide +kernel
theorem dX9_fits_335 : decode cX9_fits 335 = .ok (.iload_n 3, 1) := by decide +kernel
theorem dX9_fits_336 : decode cX9_fits 336 = .ok (.iadd, 1) := by decide +kernel
theorem dX9_fits_337 : decode cX9_fits 337 = .ok (.invokevirtual 147, 3) := by decide +kernel
theorem dX9_fits_340 : decode cX9_fits 340 = .ok (.ifCond .eq 7, 3) := by decide +kernel
theorem dX9_fits_343 : decode cX9_fits 343 = .ok (.iconst 1, 1) := by decide +kernel
theorem dX9_fits_344 : decode cX9_fits 344 = .ok (.goto 4, 3) := by decide +kernel
theorem dX9_fits_347 : decode cX9_fits 347 = .ok (.iconst 0, 1) := by decide +kernel
theorem dX9_fits_348 : decode cX9_fits 348 = .ok (.ireturn, 1) := by decide +kernel
theorem dX9_fits_349 : decode cX9_fits 349 = .ok (.aload_n 0, 1) := by decide +kernel
theorem dX9_fits_350 : decode cX9_fits 350 = .ok (.iload_n 3, 1) := by decide +kernel
theorem dX9_fits_351 : decode cX9_fits 351 = .ok (.iconst 0, 1) := by decide +kernel
theorem dX9_fits_352 : decode cX9_fits 352 = .ok (.invokevirtual 164, 3) := by decide +kernel
theorem dX9_fits_355 : decode cX9_fits 355 = .ok (.ifCond .eq 15, 3) := by decide +kernel
theorem dX9_fits_358 : decode cX9_fits 358 = .ok (.aload_n 0, 1) := by decide +kernel
theorem dX9_fits_359 : decode cX9_fits 359 = .ok (.iload_n 3, 1) := by decide +kernel
theorem dX9_fits_360 : decode cX9_fits 360 = .ok (.invokevirtual 167, 3) := by decide +kernel
theorem dX9_fits_363 : decode cX9_fits 363 = .ok (.ifCond .eq 7, 3) := by decide +kernel
theorem dX9_fits_366 : decode cX9_fits 366 = .ok (.iconst 1, 1) := by decide +kernel
theorem dX9_fits_367 : decode cX9_fits 367 = .ok (.goto 4, 3) := by decide +kernel
theorem dX9_fits_370 : decode cX9_fits 370 = .ok (.iconst 0, 1) := by decide +kernel
theorem dX9_fits_371 : decode cX9_fits 371 = .ok (.ireturn, 1) := by decide +kernel
theorem dX9_fits_372 : decode cX9_fits 372 = .ok (.aload_n 0, 1) := by decide +kernel
theorem dX9_fits_373 : decode cX9_fits 373 = .ok (.aload_n 0, 1) := by decide +kernel
theorem dX9_fits_374 : decode cX9_fits 374 = .ok (.getfield 23, 3) := by decide +kernel
theorem dX9_fits_377 : decode cX9_fits 377 = .ok (.bipush 16, 2) := by decide +kernel
theorem dX9_fits_379 : decode cX9_fits 379 = .ok (.iload_n 3, 1) := by decide +kernel
theorem dX9_fits_380 : decode cX9_fits 380 = .ok (.imul, 1) := by decide +kernel
theorem dX9_fits_381 : decode cX9_fits 381 = .ok (.iload 4, 2) := by decide +kernel
theorem dX9_fits_383 : decode cX9_fits 383 = .ok (.iadd, 1) := by decide +kernel
theorem dX9_fits_384 : decode cX9_fits 384 = .ok (.iaload, 1) := by decide +kernel
theorem dX9_fits_385 : decode cX9_fits 385 = .ok (.iconst 1, 1) := by decide +kernel
theorem dX9_fits_386 : decode cX9_fits 386 = .ok (.invokevirtual 164, 3) := by decide +kernel
theorem dX9_fits_389 : decode cX9_fits 389 = .ok (.ifCond .eq 36, 3) := by decide +kernel
theorem dX9_fits_392 : decode cX9_fits 392 = .ok (.aload_n 0, 1) := by decide +kernel
theorem dX9_fits_393 : decode cX9_fits 393 = .ok (.iconst 1, 1) := by decide +kernel
theorem dX9_fits_394 : decode cX9_fits 394 = .ok (.iload_n 3, 1) := by decide +kernel
theorem dX9_fits_395 : decode cX9_fits 395 = .ok (.iadd, 1) := by decide +kernel
theorem dX9_fits_396 : decode cX9_fits 396 = .ok (.invokevirtual 144, 3) := by decide +kernel
theorem dX9_fits_399 : decode cX9_fits 399 = .ok (.ifCond .eq 26, 3) := by decide +kernel
theorem dX9_fits_402 : decode cX9_fits 402 = .ok (.aload_n 0, 1) := by decide +kernel
theorem dX9_fits_403 : decode cX9_fits 403 = .ok (.aload_n 0, 1) := by decide +kernel
theorem dX9_fits_404 : decode cX9_fits 404 = .ok (.getfield 23, 3) := by decide +kernel
theorem dX9_fits_407 : decode cX9_fits 407 = .ok (.bipush 16, 2) := by decide +kernel
theorem dX9_fits_409 : decode cX9_fits 409 = .ok (.iload_n 3, 1) := by decide +kernel
theorem dX9_fits_410 : decode cX9_fits 410 = .ok (.imul, 1) := by decide +kernel
theorem dX9_fits_411 : decode cX9_fits 411 = .ok (.iload 4, 2) := by decide +kernel
theorem dX9_fits_413 : decode cX9_fits 413 = .ok (.iadd, 1) := by decide +kernel
theorem dX9_fits_414 : decode cX9_fits 414 = .ok (.iaload, 1) := by decide +kernel
theorem dX9_fits_415 : decode cX9_fits 415 = .ok (.invokevirtual 167, 3) := by decide +kernel
theorem dX9_fits_418 : decode cX9_fits 418 = .ok (.ifCond .eq 7, 3) := by decide +kernel
theorem dX9_fits_421 : decode cX9_fits 421 = .ok (.iconst 1, 1) := by decide +kernel
theorem dX9_fits_422 : decode cX9_fits 422 = .ok (.goto 4, 3) := by decide +kernel
theorem dX9_fits_425 : decode cX9_fits 425 = .ok (.iconst 0, 1) := by decide +kernel
theorem dX9_fits_426 : decode cX9_fits 426 = .ok (.ireturn, 1) := by decide +kernel
theorem dX9_fits_427 : decode cX9_fits 427 = .ok (.aload_n 0, 1) := by decide +kernel
theorem dX9_fits_428 : decode cX9_fits 428 = .ok (.getfield 29, 3) := by decide +kernel
theorem dX9_fits_431 : decode cX9_fits 431 = .ok (.iload_n 1, 1) := by decide +kernel
theorem dX9_fits_432 : decode cX9_fits 432 = .ok (.iaload, 1) := by decide +kernel
theorem dX9_fits_433 : decode cX9_fits 433 = .ok (.ifCond .ge 7, 3) := by decide +kernel
theorem dX9_fits_436 : decode cX9_fits 436 = .ok (.iconst 1, 1) := by decide +kernel
theorem dX9_fits_437 : decode cX9_fits 437 = .ok (.goto 4, 3) := by decide +kernel
theorem dX9_fits_440 : decode cX9_fits 440 = .ok (.iconst 0, 1) := by decide +kernel
theorem dX9_fits_441 : decode cX9_fits 441 = .ok (.ireturn, 1) := by decide +kernel
theorem dX9_fits_442 : decode cX9_fits 442 = .ok (.aload_n 0, 1) := by decide +kernel
theorem dX9_fits_443 : decode cX9_fits 443 = .ok (.getfield 29, 3) := by decide +kernel
theorem dX9_fits_446 : decode cX9_fits 446 = .ok (.iload_n 1, 1) := by decide +kernel
theorem dX9_fits_447 : decode cX9_fits 447 = .ok (.iaload, 1) := by decide +kernel
theorem dX9_fits_448 : decode cX9_fits 448 = .ok (.ifCond .lt 20, 3) := by decide +kernel
theorem dX9_fits_451 : decode cX9_fits 451 = .ok (.aload_n 0, 1) := by decide +kernel
theorem dX9_fits_452 : decode cX9_fits 452 = .ok (.aload_n 0, 1) := by decide +kernel
theorem dX9_fits_453 : decode cX9_fits 453 = .ok (.getfield 29, 3) := by decide +kernel
theorem dX9_fits_456 : decode cX9_fits 456 = .ok (.iload_n 1, 1) := by decide +kernel
theorem dX9_fits_457 : decode cX9_fits 457 = .ok (.iaload, 1) := by decide +kernel
theorem dX9_fits_458 : decode cX9_fits 458 = .ok (.invokevirtual 144, 3) := by decide +kernel
theorem dX9_fits_461 : decode cX9_fits 461 = .ok (.ifCond .eq 7, 3) := by decide +kernel
theorem dX9_fits_464 : decode cX9_fits 464 = .ok (.iconst 1, 1) := by decide +kernel
theorem dX9_fits_465 : decode cX9_fits 465 = .ok (.goto 4, 3) := by decide +kernel
theorem dX9_fits_468 : decode cX9_fits 468 = .ok (.iconst 0, 1) := by decide +kernel
theorem dX9_fits_469 : decode cX9_fits 469 = .ok (.ireturn, 1) := by decide +kernel
theorem dX9_fits_470 : decode cX9_fits 470 = .ok (.aload_n 0, 1) := by decide +kernel
theorem dX9_fits_471 : decode cX9_fits 471 = .ok (.invokevirtual 137, 3) := by decide +kernel
theorem dX9_fits_474 : decode cX9_fits 474 = .ok (.istore 5, 2) := by decide +kernel
theorem dX9_fits_476 : decode cX9_fits 476 = .ok (.iload 5, 2) := by decide +kernel
theorem dX9_fits_478 : decode cX9_fits 478 = .ok (.bipush 97, 2) := by decide +kernel
theorem dX9_fits_480 : decode cX9_fits 480 = .ok (.if_icmp .eq 11, 3) := by decide +kernel
theorem dX9_fits_483 : decode cX9_fits 483 = .ok (.iload 5, 2) := by decide +kernel
theorem dX9_fits_485 : decode cX9_fits 485 = .ok (.invokestatic 118, 3) := by decide +kernel
theorem dX9_fits_488 : decode cX9_fits 488 = .ok (.ifCond .eq 7, 3) := by decide +kernel
theorem dX9_fits_491 : decode cX9_fits 491 = .ok (.iconst 1, 1) := by decide +kernel
theorem dX9_fits_492 : decode cX9_fits 492 = .ok (.goto 4, 3) := by decide +kernel
theorem dX9_fits_495 : decode cX9_fits 495 = .ok (.iconst 0, 1) := by decide +kernel
theorem dX9_fits_496 : decode cX9_fits 496 = .ok (.ireturn, 1) := by decide +kernel
theorem dX9_fits_497 : decode cX9_fits 497 = .ok (.aload_n 0, 1) := by decide +kernel
theorem dX9_fits_498 : decode cX9_fits 498 = .ok (.iload_n 2, 1) := by decide +kernel
theorem dX9_fits_499 : decode cX9_fits 499 = .ok (.iload_n 3, 1) := by decide +kernel
theorem dX9_fits_500 : decode cX9_fits 500 = .ok (.invokevirtual 170, 3) := by decide +kernel
theorem dX9_fits_503 : decode cX9_fits 503 = .ok (.ireturn, 1) := by decide +kernel
theorem dX9_step_0 : decode cX9_step 0 = .ok (.sipush 200, 3) := by decide +kernel
theorem dX9_step_3 : decode cX9_step 3 = .ok (.iload_n 1, 1) := by decide +kernel
theorem dX9_step_4 : decode cX9_step 4 = .ok (.imul, 1) := by decide +kernel
theorem dX9_step_5 : decode cX9_step 5 = .ok (.iload_n 2, 1) := by decide +kernel
theorem dX9_step_6 : decode cX9_step 6 = .ok (.iadd, 1) := by decide +kernel
theorem dX9_step_7 : decode cX9_step 7 = .ok (.istore_n 3, 1) := by decide +kernel
theorem dX9_step_8 : decode cX9_step 8 = .ok (.aload_n 0, 1) := by decide +kernel
theorem dX9_step_9 : decode cX9_step 9 = .ok (.getfield 32, 3) := by decide +kernel
theorem dX9_step_12 : decode cX9_step 12 = .ok (.iload_n 1, 1) := by decide +kernel
theorem dX9_step_13 : decode cX9_step 13 = .ok (.iaload, 1) := by decide +kernel
theorem dX9_step_14 : decode cX9_step 14 = .ok (.istore 4, 2) := by decide +kernel
theorem dX9_step_16 : decode cX9_step 16 = .ok (.bipush 8, 2) := by decide +kernel
theorem dX9_step_18 : decode cX9_step 18 = .ok (.iload_n 1, 1) := by decide +kernel
theorem dX9_step_19 : decode cX9_step 19 = .ok (.imul, 1) := by decide +kernel
theorem dX9_step_20 : decode cX9_step 20 = .ok (.istore 5, 2) := by decide +kernel
theorem dX9_step_22 : decode cX9_step 22 = .ok (.iload 5, 2) := by decide +kernel
theorem dX9_step_24 : decode cX9_step 24 = .ok (.bipush 8, 2) := by decide +kernel
theorem dX9_step_26 : decode cX9_step 26 = .ok (.iload_n 1, 1) := by decide +kernel
theorem dX9_step_27 : decode cX9_step 27 = .ok (.imul, 1) := by decide +kernel
theorem dX9_step_28 : decode cX9_step 28 = .ok (.aload_n 0, 1) := by decide +kernel
theorem dX9_step_29 : decode cX9_step 29 = .ok (.getfield 59, 3) := by decide +kernel
theorem dX9_step_32 : decode cX9_step 32 = .ok (.iload_n 1, 1) := by decide +kernel
theorem dX9_step_33 : decode cX9_step 33 = .ok (.iaload, 1) := by decide +kernel
theorem dX9_step_34 : decode cX9_step 34 = .ok (.iadd, 1) := by decide +kernel
theorem dX9_step_35 : decode cX9_step 35 = .ok (.if_icmp .ge 75, 3) := by decide +kernel
theorem dX9_step_38 : decode cX9_step 38 = .ok (.aload_n 0, 1) := by decide +kernel
theorem dX9_step_39 : decode cX9_step 39 = .ok (.getfield 62, 3) := by decide +kernel
theorem dX9_step_42 : decode cX9_step 42 = .ok (.iload 5, 2) := by decide +kernel
theorem dX9_step_44 : decode cX9_step 44 = .ok (.iaload, 1) := by decide +kernel
theorem dX9_step_45 : decode cX9_step 45 = .ok (.iload_n 2, 1) := by decide +kernel
theorem dX9_step_46 : decode cX9_step 46 = .ok (.if_icmp .gt 58, 3) := by decide +kernel
theorem dX9_step_49 : decode cX9_step 49 = .ok (.iload_n 2, 1) := by decide +kernel
theorem dX9_step_50 : decode cX9_step 50 = .ok (.aload_n 0, 1) := by decide +kernel
theorem dX9_step_51 : decode cX9_step 51 = .ok (.getfield 65, 3) := by decide +kernel
theorem dX9_step_54 : decode cX9_step 54 = .ok (.iload 5, 2) := by decide +kernel
theorem dX9_step_56 : decode cX9_step 56 = .ok (.iaload, 1) := by decide +kernel
theorem dX9_step_57 : decode cX9_step 57 = .ok (.if_icmp .ge 47, 3) := by decide +kernel
theorem dX9_step_60 : decode cX9_step 60 = .ok (.aload_n 0, 1) := by decide +kernel
theorem dX9_step_61 : decode cX9_step 61 = .ok (.iload_n 1, 1) := by decide +kernel
theorem dX9_step_62 : decode cX9_step 62 = .ok (.iload_n 2, 1) := by decide +kernel
theorem dX9_step_63 : decode cX9_step 63 = .ok (.invokevirtual 173, 3) := by decide +kernel
theorem dX9_step_66 : decode cX9_step 66 = .ok (.aload_n 0, 1) := by decide +kernel
theorem dX9_step_67 : decode cX9_step 67 = .ok (.iconst 0, 1) := by decide +kernel
theorem dX9_step_68 : decode cX9_step 68 = .ok (.putfield 124, 3) := by decide +kernel
theorem dX9_step_71 : decode cX9_step 71 = .ok (.aload_n 0, 1) := by decide +kernel
theorem dX9_step_72 : decode cX9_step 72 = .ok (.iconst 1, 1) := by decide +kernel
theorem dX9_step_73 : decode cX9_step 73 = .ok (.aload_n 0, 1) := by decide +kernel
theorem dX9_step_74 : decode cX9_step 74 = .ok (.getfield 68, 3) := by decide +kernel
theorem dX9_step_77 : decode cX9_step 77 = .ok (.iload 5, 2) := by decide +kernel
theorem dX9_step_79 : decode cX9_step 79 = .ok (.iaload, 1) := by decide +kernel
theorem dX9_step_80 : decode cX9_step 80 = .ok (.iadd, 1) := by decide +kernel
theorem dX9_step_81 : decode cX9_step 81 = .ok (.invokevirtual 147, 3) := by decide +kernel
theorem dX9_step_84 : decode cX9_step 84 = .ok (.ifCond .eq 18, 3) := by decide +kernel
theorem dX9_step_87 : decode cX9_step 87 = .ok (.aload_n 0, 1) := by decide +kernel
theorem dX9_step_88 : decode cX9_step 88 = .ok (.iload_n 1, 1) := by decide +kernel
theorem dX9_step_89 : decode cX9_step 89 = .ok (.aload_n 0, 1) := by decide +kernel
theorem dX9_step_90 : decode cX9_step 90 = .ok (.getfield 71, 3) := by decide +kernel
theorem dX9_step_93 : decode cX9_step 93 = .ok (.iload 5, 2) := by decide +kernel
theorem dX9_step_95 : decode cX9_step 95 = .ok (.iaload, 1) := by decide +kernel
theorem dX9_step_96 : decode cX9_step 96 = .ok (.invokevirtual 177, 3) := by decide +kernel
theorem dX9_step_99 : decode cX9_step 99 = .ok (.ifCond .ne 5, 3) := by decide +kernel
theorem dX9_step_102 : decode cX9_step 102 = .ok (.iconst 0, 1) := by decide +kernel
theorem dX9_step_103 : decode cX9_step 103 = .ok (.ireturn, 1) := by decide +kernel
theorem dX9_step_104 : decode cX9_step 104 = .ok (.iinc 5 1, 3) := by decide +kernel
theorem dX9_step_107 : decode cX9_step 107 = .ok (.goto (-85), 3) := by decide +kernel
theorem dX9_step_110 : decode cX9_step 110 = .ok (.aload_n 0, 1) := by decide +kernel
theorem dX9_step_111 : decode cX9_step 111 = .ok (.iload_n 1, 1) := by decide +kernel
theorem dX9_step_112 : decode cX9_step 112 = .ok (.iload_n 2, 1) := by decide +kernel
theorem dX9_step_113 : decode cX9_step 113 = .ok (.invokevirtual 173, 3) := by decide +kernel
theorem dX9_step_116 : decode cX9_step 116 = .ok (.aload_n 0, 1) := by decide +kernel
theorem dX9_step_117 : decode cX9_step 117 = .ok (.getfield 50, 3) := by decide +kernel
theorem dX9_step_120 : decode cX9_step 120 = .ok (.iload_n 3, 1) := by decide +kernel
theorem dX9_step_121 : decode cX9_step 121 = .ok (.iaload, 1) := by decide +kernel
theorem dX9_step_122 : decode cX9_step 122 = .ok (.istore 5, 2) := by decide +kernel
theorem dX9_step_124 : decode cX9_step 124 = .ok (.aload_n 0, 1) := by decide +kernel
theorem dX9_step_125 : decode cX9_step 125 = .ok (.iload_n 1, 1) := by decide +kernel
theorem dX9_step_126 : decode cX9_step 126 = .ok (.iload 5, 2) := by decide +kernel
theorem dX9_step_128 : decode cX9_step 128 = .ok (.aload_n 0, 1) := by decide +kernel
theorem dX9_step_129 : decode cX9_step 129 = .ok (.getfield 53, 3) := by decide +kernel
theorem dX9_step_132 : decode cX9_step 132 = .ok (.iload_n 3, 1) := by decide +kernel
theorem dX9_step_133 : decode cX9_step 133 = .ok (.iaload, 1) := by decide +kernel
theorem dX9_step_134 : decode cX9_step 134 = .ok (.aload_n 0, 1) := by decide +kernel
theorem dX9_step_135 : decode cX9_step 135 = .ok (.getfield 56, 3) := by decide +kernel
theorem dX9_step_138 : decode cX9_step 138 = .ok (.iload_n 3, 1) := by decide +kernel
theorem dX9_step_139 : decode cX9_step 139 = .ok (.iaload, 1) := by decide +kernel
theorem dX9_step_140 : decode cX9_step 140 = .ok (.invokevirtual 180, 3) := by decide +kernel
theorem dX9_step_143 : decode cX9_step 143 = .ok (.ifCond .ne 5, 3) := by decide +kernel
theorem dX9_step_146 : decode cX9_step 146 = .ok (.iconst 0, 1) := by decide +kernel
theorem dX9_step_147 : decode cX9_step 147 = .ok (.ireturn, 1) := by decide +kernel
theorem dX9_step_148 : decode cX9_step 148 = .ok (.iload 5, 2) := by decide +kernel
theorem dX9_step_150 : decode cX9_step 150 = .ok (.bipush 25, 2) := by decide +kernel
theorem dX9_step_152 : decode cX9_step 152 = .ok (.if_icmp .eq 24, 3) := by decide +kernel
theorem dX9_step_155 : decode cX9_step 155 = .ok (.iload 5, 2) := by decide +kernel
theorem dX9_step_157 : decode cX9_step 157 = .ok (.bipush 37, 2) := by decide +kernel
theorem dX9_step_159 : decode cX9_step 159 = .ok (.if_icmp .eq 17, 3) := by decide +kernel
theorem dX9_step_162 : decode cX9_step 162 = .ok (.iload 5, 2) := by decide +kernel
theorem dX9_step_164 : decode cX9_step 164 = .ok (.bipush 38, 2) := by decide +kernel
theorem dX9_step_166 : decode cX9_step 166 = .ok (.if_icmp .eq 10, 3) := by decide +kernel
theorem dX9_step_169 : decode cX9_step 169 = .ok (.iload 5, 2) := by decide +kernel
theorem dX9_step_171 : decode cX9_step 171 = .ok (.bipush 39, 2) := by decide +kernel
theorem dX9_step_173 : decode cX9_step 173 = .ok (.if_icmp .ne 7, 3) := by decide +kernel
theorem dX9_step_176 : decode cX9_step 176 = .ok (.iconst 1, 1) := by decide +kernel
theorem dX9_step_177 : decode cX9_step 177 = .ok (.goto 4, 3) := by decide +kernel
theorem dX9_step_180 : decode cX9_step 180 = .ok (.iconst 0, 1) := by decide +kernel
theorem dX9_step_181 : decode cX9_step 181 = .ok (.istore 6, 2) := by decide +kernel
theorem dX9_step_183 : decode cX9_step 183 = .ok (.iload 6, 2) := by decide +kernel
theorem dX9_step_185 : decode cX9_step 185 = .ok (.ifCond .ne 14, 3) := by decide +kernel
theorem dX9_step_188 : decode cX9_step 188 = .ok (.aload_n 0, 1) := by decide +kernel
theorem dX9_step_189 : decode cX9_step 189 = .ok (.iload_n 1, 1) := by decide +kernel
theorem dX9_step_190 : decode cX9_step 190 = .ok (.iload_n 2, 1) := by decide +kernel
theorem dX9_step_191 : decode cX9_step 191 = .ok (.iconst 1, 1) := by decide +kernel
theorem dX9_step_192 : decode cX9_step 192 = .ok (.iadd, 1) := by decide +kernel
theorem dX9_step_193 : decode cX9_step 193 = .ok (.invokevirtual 177, 3) := by decide +kernel
theorem dX9_step_196 : decode cX9_step 196 = .ok (.ifCond .eq 35, 3) := by decide +kernel
theorem dX9_step_199 : decode cX9_step 199 = .ok (.iload 5, 2) := by decide +kernel
theorem dX9_step_201 : decode cX9_step 201 = .ok (.bipush 19, 2) := by decide +kernel
theorem dX9_step_203 : decode cX9_step 203 = .ok (.if_icmp .lt 24, 3) := by decide +kernel
theorem dX9_step_206 : decode cX9_step 206 = .ok (.iload 5, 2) := by decide +kernel
theorem dX9_step_208 : decode cX9_step 208 = .ok (.bipush 25, 2) := by decide +kernel
theorem dX9_step_210 : decode cX9_step 210 = .ok (.if_icmp .gt 17, 3) := by decide +kernel
theorem dX9_step_213 : decode cX9_step 213 = .ok (.aload_n 0, 1) := by decide +kernel
theorem dX9_step_214 : decode cX9_step 214 = .ok (.iload_n 1, 1) := by decide +kernel
theorem dX9_step_215 : decode cX9_step 215 = .ok (.aload_n 0, 1) := by decide +kernel
theorem dX9_step_216 : decode cX9_step 216 = .ok (.getfield 53, 3) := by decide +kernel
theorem dX9_step_219 : decode cX9_step 219 = .ok (.iload_n 3, 1) := by decide +kernel
theorem dX9_step_220 : decode cX9_step 220 = .ok (.iaload, 1) := by decide +kernel
theorem dX9_step_221 : decode cX9_step 221 = .ok (.invokevirtual 177, 3) := by decide +kernel
theorem dX9_step_224 : decode cX9_step 224 = .ok (.ifCond .eq 7, 3) := by decide +kernel
theorem dX9_step_227 : decode cX9_step 227 = .ok (.iconst 1, 1) := by decide +kernel
theorem dX9_step_228 : decode cX9_step 228 = .ok (.goto 4, 3) := by decide +kernel
theorem dX9_step_231 : decode cX9_step 231 = .ok (.iconst 0, 1) := by decide +kernel
theorem dX9_step_232 : decode cX9_step 232 = .ok (.ireturn, 1) := by decide +kernel
theorem dX9_verify_0 : decode cX9_verify 0 = .ok (.aload_n 0, 1) := by decide +kernel
theorem dX9_verify_1 : decode cX9_verify 1 = .ok (.iload_n 1, 1) := by decide +kernel
theorem dX9_verify_2 : decode cX9_verify 2 = .ok (.invokevirtual 104, 3) := by decide +kernel
theorem dX9_verify_5 : decode cX9_verify 5 = .ok (.ifCond .ne 5, 3) := by decide +kernel
theorem dX9_verify_8 : decode cX9_verify 8 = .ok (.iconst (-1), 1) := by decide +kernel
theorem dX9_verify_9 : decode cX9_verify 9 = .ok (.ireturn, 1) := by decide +kernel
theorem dX9_verify_10 : decode cX9_verify 10 = .ok (.aload_n 0, 1) := by decide +kernel
theorem dX9_verify_11 : decode cX9_verify 11 = .ok (.getfield 74, 3) := by decide +kernel
theorem dX9_verify_14 : decode cX9_verify 14 = .ok (.iload_n 1, 1) := by decide +kernel
theorem dX9_verify_15 : decode cX9_verify 15 = .ok (.iconst 1, 1) := by decide +kernel
theorem dX9_verify_16 : decode cX9_verify 16 = .ok (.bastore, 1) := by decide +kernel
theorem dX9_verify_17 : decode cX9_verify 17 = .ok (.aload_n 0, 1) := by decide +kernel
theorem dX9_verify_18 : decode cX9_verify 18 = .ok (.iconst 0, 1) := by decide +kernel
theorem dX9_verify_19 : decode cX9_verify 19 = .ok (.putfield 183, 3) := by decide +kernel
theorem dX9_verify_22 : decode cX9_verify 22 = .ok (.iconst 0, 1) := by decide +kernel
theorem dX9_verify_23 : decode cX9_verify 23 = .ok (.istore_n 2, 1) := by decide +kernel
theorem dX9_verify_24 : decode cX9_verify 24 = .ok (.iload_n 2, 1) := by decide +kernel
theorem dX9_verify_25 : decode cX9_verify 25 = .ok (.sipush 200, 3) := by decide +kernel
theorem dX9_verify_28 : decode cX9_verify 28 = .ok (.if_icmp .ge 29, 3) := by decide +kernel
theorem dX9_verify_31 : decode cX9_verify 31 = .ok (.aload_n 0, 1) := by decide +kernel
theorem dX9_verify_32 : decode cX9_verify 32 = .ok (.getfield 77, 3) := by decide +kernel
theorem dX9_verify_35 : decode cX9_verify 35 = .ok (.sipush 200, 3) := by decide +kernel
theorem dX9_verify_38 : decode cX9_verify 38 = .ok (.iload_n 1, 1) := by decide +kernel
theorem dX9_verify_39 : decode cX9_verify 39 = .ok (.imul, 1) := by decide +kernel
theorem dX9_verify_40 : decode cX9_verify 40 = .ok (.iload_n 2, 1) := by decide +kernel
theorem dX9_verify_41 : decode cX9_verify 41 = .ok (.iadd, 1) := by decide +kernel
theorem dX9_verify_42 : decode cX9_verify 42 = .ok (.iconst (-1), 1) := by decide +kernel
theorem dX9_verify_43 : decode cX9_verify 43 = .ok (.iastore, 1) := by decide +kernel
theorem dX9_verify_44 : decode cX9_verify 44 = .ok (.aload_n 0, 1) := by decide +kernel
theorem dX9_verify_45 : decode cX9_verify 45 = .ok (.getfield 84, 3) := by decide +kernel
theorem dX9_verify_48 : decode cX9_verify 48 = .ok (.iload_n 2, 1) := by decide +kernel
theorem dX9_verify_49 : decode cX9_verify 49 = .ok (.iconst 0, 1) := by decide +kernel
theorem dX9_verify_50 : decode cX9_verify 50 = .ok (.bastore, 1) := by decide +kernel
theorem dX9_verify_51 : decode cX9_verify 51 = .ok (.iinc 2 1, 3) := by decide +kernel
theorem dX9_verify_54 : decode cX9_verify 54 = .ok (.goto (-30), 3) := by decide +kernel
theorem dX9_verify_57 : decode cX9_verify 57 = .ok (.aload_n 0, 1) := by decide +kernel
theorem dX9_verify_58 : decode cX9_verify 58 = .ok (.getfield 47, 3) := by decide +kernel
theorem dX9_verify_61 : decode cX9_verify 61 = .ok (.iload_n 1, 1) := by decide +kernel
theorem dX9_verify_62 : decode cX9_verify 62 = .ok (.iaload, 1) := by decide +kernel
theorem dX9_verify_63 : decode cX9_verify 63 = .ok (.ifCond .ne 5, 3) := by decide +kernel
theorem dX9_verify_66 : decode cX9_verify 66 = .ok (.iconst 1, 1) := by decide +kernel
theorem dX9_verify_67 : decode cX9_verify 67 = .ok (.ireturn, 1) := by decide +kernel
theorem dX9_verify_68 : decode cX9_verify 68 = .ok (.aload_n 0, 1) := by decide +kernel
theorem dX9_verify_69 : decode cX9_verify 69 = .ok (.iconst 0, 1) := by decide +kernel
theorem dX9_verify_70 : decode cX9_verify 70 = .ok (.putfield 124, 3) := by decide +kernel
theorem dX9_verify_73 : decode cX9_verify 73 = .ok (.iconst 0, 1) := by decide +kernel
theorem dX9_verify_74 : decode cX9_verify 74 = .ok (.istore_n 2, 1) := by decide +kernel
theorem dX9_verify_75 : decode cX9_verify 75 = .ok (.iload_n 2, 1) := by decide +kernel
theorem dX9_verify_76 : decode cX9_verify 76 = .ok (.aload_n 0, 1) := by decide +kernel
theorem dX9_verify_77 : decode cX9_verify 77 = .ok (.getfield 32, 3) := by decide +kernel
theorem dX9_verify_80 : decode cX9_verify 80 = .ok (.iload_n 1, 1) := by decide +kernel
theorem dX9_verify_81 : decode cX9_verify 81 = .ok (.iaload, 1) := by decide +kernel
theorem dX9_verify_82 : decode cX9_verify 82 = .ok (.if_icmp .ge 41, 3) := by decide +kernel
theorem dX9_verify_85 : decode cX9_verify 85 = .ok (.aload_n 0, 1) := by decide +kernel
theorem dX9_verify_86 : decode cX9_verify 86 = .ok (.getfield 87, 3) := by decide +kernel
theorem dX9_verify_89 : decode cX9_verify 89 = .ok (.iload_n 2, 1) := by decide +kernel
theorem dX9_verify_90 : decode cX9_verify 90 = .ok (.iload_n 2, 1) := by decide +kernel
theorem dX9_verify_91 : decode cX9_verify 91 = .ok (.aload_n 0, 1) := by decide +kernel
theorem dX9_verify_92 : decode cX9_verify 92 = .ok (.getfield 38, 3) := by decide +kernel
theorem dX9_verify_95 : decode cX9_verify 95 = .ok (.iload_n 1, 1) := by decide +kernel
theorem dX9_verify_96 : decode cX9_verify 96 = .ok (.iaload, 1) := by decide +kernel
theorem dX9_verify_97 : decode cX9_verify 97 = .ok (.if_icmp .ge 17, 3) := by decide +kernel
theorem dX9_verify_100 : decode cX9_verify 100 = .ok (.aload_n 0, 1) := by decide +kernel
theorem dX9_verify_101 : decode cX9_verify 101 = .ok (.getfield 41, 3) := by decide +kernel
theorem dX9_verify_104 : decode cX9_verify 104 = .ok (.bipush 8, 2) := by decide +kernel
theorem dX9_verify_106 : decode cX9_verify 106 = .ok (.iload_n 1, 1) := by decide +kernel
theorem dX9_verify_107 : decode cX9_verify 107 = .ok (.imul, 1) := by decide +kernel
theorem dX9_verify_108 : decode cX9_verify 108 = .ok (.iload_n 2, 1) := by decide +kernel
theorem dX9_verify_109 : decode cX9_verify 109 = .ok (.iadd, 1) := by decide +kernel
theorem dX9_verify_110 : decode cX9_verify 110 = .ok (.iaload, 1) := by decide +kernel
theorem dX9_verify_111 : decode cX9_verify 111 = .ok (.goto 5, 3) := by decide +kernel
theorem dX9_verify_114 : decode cX9_verify 114 = .ok (.bipush 99, 2) := by decide +kernel
theorem dX9_verify_116 : decode cX9_verify 116 = .ok (.iastore, 1) := by decide +kernel
theorem dX9_verify_117 : decode cX9_verify 117 = .ok (.iinc 2 1, 3) := by decide +kernel
theorem dX9_verify_120 : decode cX9_verify 120 = .ok (.goto (-45), 3) := by decide +kernel
theorem dX9_verify_123 : decode cX9_verify 123 = .ok (.aload_n 0, 1) := by decide +kernel
theorem dX9_verify_124 : decode cX9_verify 124 = .ok (.iload_n 1, 1) := by decide +kernel
theorem dX9_verify_125 : decode cX9_verify 125 = .ok (.iconst 0, 1) := by decide +kernel
theorem dX9_verify_126 : decode cX9_verify 126 = .ok (.invokevirtual 177, 3) := by decide +kernel
theorem dX9_verify_129 : decode cX9_verify 129 = .ok (.istore_n 2, 1) := by decide +kernel
theorem dX9_verify_130 : decode cX9_verify 130 = .ok (.iconst 0, 1) := by decide +kernel
theorem dX9_verify_131 : decode cX9_verify 131 = .ok (.istore_n 3, 1) := by decide +kernel
theorem dX9_verify_132 : decode cX9_verify 132 = .ok (.iload_n 3, 1) := by decide +kernel
theorem dX9_verify_133 : decode cX9_verify 133 = .ok (.aload_n 0, 1) := by decide +kernel
theorem dX9_verify_134 : decode cX9_verify 134 = .ok (.getfield 47, 3) := by decide +kernel
theorem dX9_verify_137 : decode cX9_verify 137 = .ok (.iload_n 1, 1) := by decide +kernel
theorem dX9_verify_138 : decode cX9_verify 138 = .ok (.iaload, 1) := by decide +kernel
theorem dX9_verify_139 : decode cX9_verify 139 = .ok (.if_icmp .ge 61, 3) := by decide +kernel
theorem dX9_verify_142 : decode cX9_verify 142 = .ok (.aload_n 0, 1) := by decide +kernel
theorem dX9_verify_143 : decode cX9_verify 143 = .ok (.getfield 84, 3) := by decide +kernel
theorem dX9_verify_146 : decode cX9_verify 146 = .ok (.iload_n 3, 1) := by decide +kernel
theorem dX9_verify_147 : decode cX9_verify 147 = .ok (.baload, 1) := by decide +kernel
theorem dX9_verify_148 : decode cX9_verify 148 = .ok (.ifCond .eq 46, 3) := by decide +kernel
theorem dX9_verify_151 : decode cX9_verify 151 = .ok (.aload_n 0, 1) := by decide +kernel
theorem dX9_verify_152 : decode cX9_verify 152 = .ok (.getfield 84, 3) := by decide +kernel
theorem dX9_verify_155 : decode cX9_verify 155 = .ok (.iload_n 3, 1) := by decide +kernel
theorem dX9_verify_156 : decode cX9_verify 156 = .ok (.iconst 0, 1) := by decide +kernel
theorem dX9_verify_157 : decode cX9_verify 157 = .ok (.bastore, 1) := by decide +kernel
theorem dX9_verify_158 : decode cX9_verify 158 = .ok (.aload_n 0, 1) := by decide +kernel
theorem dX9_verify_159 : decode cX9_verify 159 = .ok (.dup, 1) := by decide +kernel
theorem dX9_verify_160 : decode cX9_verify 160 = .ok (.getfield 183, 3) := by decide +kernel
theorem dX9_verify_163 : decode cX9_verify 163 = .ok (.iconst 1, 1) := by decide +kernel
theorem dX9_verify_164 : decode cX9_verify 164 = .ok (.iadd, 1) := by decide +kernel
theorem dX9_verify_165 : decode cX9_verify 165 = .ok (.putfield 183, 3) := by decide +kernel
theorem dX9_verify_168 : decode cX9_verify 168 = .ok (.aload_n 0, 1) := by decide +kernel
theorem dX9_verify_169 : decode cX9_verify 169 = .ok (.iload_n 3, 1) := by decide +kernel
theorem dX9_verify_170 : decode cX9_verify 170 = .ok (.putfield 127, 3) := by decide +kernel
theorem dX9_verify_173 : decode cX9_verify 173 = .ok (.aload_n 0, 1) := by decide +kernel
theorem dX9_verify_174 : decode cX9_verify 174 = .ok (.iload_n 1, 1) := by decide +kernel
theorem dX9_verify_175 : decode cX9_verify 175 = .ok (.iload_n 3, 1) := by decide +kernel
theorem dX9_verify_176 : decode cX9_verify 176 = .ok (.invokevirtual 186, 3) := by decide +kernel
theorem dX9_verify_179 : decode cX9_verify 179 = .ok (.ifCond .ne 10, 3) := by decide +kernel
theorem dX9_verify_182 : decode cX9_verify 182 = .ok (.iconst 1, 1) := by decide +kernel
theorem dX9_verify_183 : decode cX9_verify 183 = .ok (.aload_n 0, 1) := by decide +kernel
theorem dX9_verify_184 : decode cX9_verify 184 = .ok (.getfield 127, 3) := by decide +kernel
theorem dX9_verify_187 : decode cX9_verify 187 = .ok (.iadd, 1) := by decide +kernel
theorem dX9_verify_188 : decode cX9_verify 188 = .ok (.ireturn, 1) := by decide +kernel
theorem dX9_verify_189 : decode cX9_verify 189 = .ok (.iconst 0, 1) := by decide +kernel
theorem dX9_verify_190 : decode cX9_verify 190 = .ok (.istore_n 3, 1) := by decide +kernel
theorem dX9_verify_191 : decode cX9_verify 191 = .ok (.goto (-59), 3) := by decide +kernel
theorem dX9_verify_194 : decode cX9_verify 194 = .ok (.iinc 3 1, 3) := by decide +kernel
theorem dX9_verify_197 : decode cX9_verify 197 = .ok (.goto (-65), 3) := by decide +kernel
theorem dX9_verify_200 : decode cX9_verify 200 = .ok (.iconst 0, 1) := by decide +kernel
theorem dX9_verify_201 : decode cX9_verify 201 = .ok (.ireturn, 1) := by decide +kernel
theorem dX9_stands_0 : decode cX9_stands 0 = .ok (.sipush 200, 3) := by decide +kernel
theorem dX9_stands_3 : decode cX9_stands 3 = .ok (.iload_n 1, 1) := by decide +kernel
theorem dX9_stands_4 : decode cX9_stands 4 = .ok (.imul, 1) := by decide +kernel
theorem dX9_stands_5 : decode cX9_stands 5 = .ok (.iload_n 2, 1) := by decide +kernel
theorem dX9_stands_6 : decode cX9_stands 6 = .ok (.iadd, 1) := by decide +kernel
theorem dX9_stands_7 : decode cX9_stands 7 = .ok (.istore 5, 2) := by decide +kernel
theorem dX9_stands_9 : decode cX9_stands 9 = .ok (.aload_n 0, 1) := by decide +kernel
theorem dX9_stands_10 : decode cX9_stands 10 = .ok (.iload_n 1, 1) := by decide +kernel
theorem dX9_stands_11 : decode cX9_stands 11 = .ok (.invokevirtual 104, 3) := by decide +kernel
theorem dX9_stands_14 : decode cX9_stands 14 = .ok (.ifCond .eq 36, 3) := by decide +kernel
theorem dX9_stands_17 : decode cX9_stands 17 = .ok (.aload_n 0, 1) := by decide +kernel
theorem dX9_stands_18 : decode cX9_stands 18 = .ok (.getfield 74, 3) := by decide +kernel
theorem dX9_stands_21 : decode cX9_stands 21 = .ok (.iload_n 1, 1) := by decide +kernel
theorem dX9_stands_22 : decode cX9_stands 22 = .ok (.baload, 1) := by decide +kernel
theorem dX9_stands_23 : decode cX9_stands 23 = .ok (.ifCond .eq 27, 3) := by decide +kernel
theorem dX9_stands_26 : decode cX9_stands 26 = .ok (.iload_n 2, 1) := by decide +kernel
theorem dX9_stands_27 : decode cX9_stands 27 = .ok (.ifCond .lt 23, 3) := by decide +kernel
theorem dX9_stands_30 : decode cX9_stands 30 = .ok (.iload_n 2, 1) := by decide +kernel
theorem dX9_stands_31 : decode cX9_stands 31 = .ok (.aload_n 0, 1) := by decide +kernel
theorem dX9_stands_32 : decode cX9_stands 32 = .ok (.getfield 47, 3) := by decide +kernel
theorem dX9_stands_35 : decode cX9_stands 35 = .ok (.iload_n 1, 1) := by decide +kernel
theorem dX9_stands_36 : decode cX9_stands 36 = .ok (.iaload, 1) := by decide +kernel
theorem dX9_stands_37 : decode cX9_stands 37 = .ok (.if_icmp .ge 13, 3) := by decide +kernel
theorem dX9_stands_40 : decode cX9_stands 40 = .ok (.aload_n 0, 1) := by decide +kernel
theorem dX9_stands_41 : decode cX9_stands 41 = .ok (.getfield 77, 3) := by decide +kernel
theorem dX9_stands_44 : decode cX9_stands 44 = .ok (.iload 5, 2) := by decide +kernel
theorem dX9_stands_46 : decode cX9_stands 46 = .ok (.iaload, 1) := by decide +kernel
theorem dX9_stands_47 : decode cX9_stands 47 = .ok (.ifCond .ge 5, 3) := by decide +kernel
theorem dX9_stands_50 : decode cX9_stands 50 = .ok (.iconst (-1), 1) := by decide +kernel
theorem dX9_stands_51 : decode cX9_stands 51 = .ok (.ireturn, 1) := by decide +kernel
theorem dX9_stands_52 : decode cX9_stands 52 = .ok (.iload_n 3, 1) := by decide +kernel
theorem dX9_stands_53 : decode cX9_stands 53 = .ok (.ifCond .ne 11, 3) := by decide +kernel
theorem dX9_stands_56 : decode cX9_stands 56 = .ok (.aload_n 0, 1) := by decide +kernel
theorem dX9_stands_57 : decode cX9_stands 57 = .ok (.getfield 77, 3) := by decide +kernel
theorem dX9_stands_60 : decode cX9_stands 60 = .ok (.iload 5, 2) := by decide +kernel
theorem dX9_stands_62 : decode cX9_stands 62 = .ok (.iaload, 1) := by decide +kernel
theorem dX9_stands_63 : decode cX9_stands 63 = .ok (.ireturn, 1) := by decide +kernel
theorem dX9_stands_64 : decode cX9_stands 64 = .ok (.iload_n 3, 1) := by decide +kernel
theorem dX9_stands_65 : decode cX9_stands 65 = .ok (.iconst 1, 1) := by decide +kernel
theorem dX9_stands_66 : decode cX9_stands 66 = .ok (.if_icmp .ne 37, 3) := by decide +kernel
theorem dX9_stands_69 : decode cX9_stands 69 = .ok (.iload 4, 2) := by decide +kernel
theorem dX9_stands_71 : decode cX9_stands 71 = .ok (.ifCond .lt 30, 3) := by decide +kernel
theorem dX9_stands_74 : decode cX9_stands 74 = .ok (.iload 4, 2) := by decide +kernel
theorem dX9_stands_76 : decode cX9_stands 76 = .ok (.aload_n 0, 1) := by decide +kernel
theorem dX9_stands_77 : decode cX9_stands 77 = .ok (.getfield 32, 3) := by decide +kernel
theorem dX9_stands_80 : decode cX9_stands 80 = .ok (.iload_n 1, 1) := by decide +kernel
theorem dX9_stands_81 : decode cX9_stands 81 = .ok (.iaload, 1) := by decide +kernel
theorem dX9_stands_82 : decode cX9_stands 82 = .ok (.if_icmp .ge 19, 3) := by decide +kernel
theorem dX9_stands_85 : decode cX9_stands 85 = .ok (.aload_n 0, 1) := by decide +kernel
theorem dX9_stands_86 : decode cX9_stands 86 = .ok (.getfield 81, 3) := by decide +kernel
theorem dX9_stands_89 : decode cX9_stands 89 = .ok (.bipush 12, 2) := by decide +kernel
theorem dX9_stands_91 : decode cX9_stands 91 = .ok (.iload 5, 2) := by decide +kernel
theorem dX9_stands_93 : decode cX9_stands 93 = .ok (.imul, 1) := by decide +kernel
theorem dX9_stands_94 : decode cX9_stands 94 = .ok (.iload 4, 2) := by decide +kernel
theorem dX9_stands_96 : decode cX9_stands 96 = .ok (.iadd, 1) := by decide +kernel
theorem dX9_stands_97 : decode cX9_stands 97 = .ok (.iaload, 1) := by decide +kernel
theorem dX9_stands_98 : decode cX9_stands 98 = .ok (.goto 4, 3) := by decide +kernel
theorem dX9_stands_101 : decode cX9_stands 101 = .ok (.iconst (-1), 1) := by decide +kernel
theorem dX9_stands_102 : decode cX9_stands 102 = .ok (.ireturn, 1) := by decide +kernel
theorem dX9_stands_103 : decode cX9_stands 103 = .ok (.iload_n 3, 1) := by decide +kernel
theorem dX9_stands_104 : decode cX9_stands 104 = .ok (.iconst 2, 1) := by decide +kernel
theorem dX9_stands_105 : decode cX9_stands 105 = .ok (.if_icmp .ne 43, 3) := by decide +kernel
theorem dX9_stands_108 : decode cX9_stands 108 = .ok (.iload 4, 2) := by decide +kernel
theorem dX9_stands_110 : decode cX9_stands 110 = .ok (.ifCond .lt 38, 3) := by decide +kernel
theorem dX9_stands_113 : decode cX9_stands 113 = .ok (.iload 4, 2) := by decide +kernel
theorem dX9_stands_115 : decode cX9_stands 115 = .ok (.aload_n 0, 1) := by decide +kernel
theorem dX9_stands_116 : decode cX9_stands 116 = .ok (.getfield 77, 3) := by decide +kernel
theorem dX9_stands_119 : decode cX9_stands 119 = .ok (.iload 5, 2) := by decide +kernel
theorem dX9_stands_121 : decode cX9_stands 121 = .ok (.iaload, 1) := by decide +kernel
theorem dX9_stands_122 : decode cX9_stands 122 = .ok (.if_icmp .ge 26, 3) := by decide +kernel
theorem dX9_stands_125 : decode cX9_stands 125 = .ok (.aload_n 0, 1) := by decide +kernel
theorem dX9_stands_126 : decode cX9_stands 126 = .ok (.getfield 81, 3) := by decide +kernel
theorem dX9_stands_129 : decode cX9_stands 129 = .ok (.bipush 12, 2) := by decide +kernel
theorem dX9_stands_131 : decode cX9_stands 131 = .ok (.iload 5, 2) := by decide +kernel
theorem dX9_stands_133 : decode cX9_stands 133 = .ok (.imul, 1) := by decide +kernel
theorem dX9_stands_134 : decode cX9_stands 134 = .ok (.aload_n 0, 1) := by decide +kernel
theorem dX9_stands_135 : decode cX9_stands 135 = .ok (.getfield 32, 3) := by decide +kernel
theorem dX9_stands_138 : decode cX9_stands 138 = .ok (.iload_n 1, 1) := by decide +kernel
theorem dX9_stands_139 : decode cX9_stands 139 = .ok (.iaload, 1) := by decide +kernel
theorem dX9_stands_140 : decode cX9_stands 140 = .ok (.iadd, 1) := by decide +kernel
theorem dX9_stands_141 : decode cX9_stands 141 = .ok (.iload 4, 2) := by decide +kernel
theorem dX9_stands_143 : decode cX9_stands 143 = .ok (.iadd, 1) := by decide +kernel
theorem dX9_stands_144 : decode cX9_stands 144 = .ok (.iaload, 1) := by decide +kernel
theorem dX9_stands_145 : decode cX9_stands 145 = .ok (.goto 4, 3) := by decide +kernel
theorem dX9_stands_148 : decode cX9_stands 148 = .ok (.iconst (-1), 1) := by decide +kernel
theorem dX9_stands_149 : decode cX9_stands 149 = .ok (.ireturn, 1) := by decide +kernel
theorem dX9_looked_0 : decode cX9_looked 0 = .ok (.aload_n 0, 1) := by decide +kernel
theorem dX9_looked_1 : decode cX9_looked 1 = .ok (.getfield 183, 3) := by decide +kernel
theorem dX9_looked_4 : decode cX9_looked 4 = .ok (.ireturn, 1) := by decide +kernel
theorem dJ9_min_7cf53_0 : decode cJ9_min_7cf53 0 = .ok (.iload_n 0, 1) := by decide +kernel
theorem dJ9_min_7cf53_1 : decode cJ9_min_7cf53 1 = .ok (.iload_n 1, 1) := by decide +kernel
theorem dJ9_min_7cf53_2 : decode cJ9_min_7cf53 2 = .ok (.if_icmp .gt 7, 3) := by decide +kernel
theorem dJ9_min_7cf53_5 : decode cJ9_min_7cf53 5 = .ok (.iload_n 0, 1) := by decide +kernel
theorem dJ9_min_7cf53_6 : decode cJ9_min_7cf53 6 = .ok (.goto 4, 3) := by decide +kernel
theorem dJ9_min_7cf53_9 : decode cJ9_min_7cf53 9 = .ok (.iload_n 1, 1) := by decide +kernel
theorem dJ9_min_7cf53_10 : decode cJ9_min_7cf53 10 = .ok (.ireturn, 1) := by decide +kernel
theorem dJ7_fill_53178_0 : decode cJ7_fill_53178 0 = .ok (.iconst 0, 1) := by decide +kernel
theorem dJ7_fill_53178_1 : decode cJ7_fill_53178 1 = .ok (.istore_n 2, 1) := by decide +kernel
theorem dJ7_fill_53178_2 : decode cJ7_fill_53178 2 = .ok (.aload_n 0, 1) := by decide +kernel
theorem dJ7_fill_53178_3 : decode cJ7_fill_53178 3 = .ok (.arraylength, 1) := by decide +kernel
theorem dJ7_fill_53178_4 : decode cJ7_fill_53178 4 = .ok (.istore_n 3, 1) := by decide +kernel
theorem dJ7_fill_53178_5 : decode cJ7_fill_53178 5 = .ok (.iload_n 2, 1) := by decide +kernel
theorem dJ7_fill_53178_6 : decode cJ7_fill_53178 6 = .ok (.iload_n 3, 1) := by decide +kernel
theorem dJ7_fill_53178_7 : decode cJ7_fill_53178 7 = .ok (.if_icmp .ge 13, 3) := by decide +kernel
theorem dJ7_fill_53178_10 : decode cJ7_fill_53178 10 = .ok (.aload_n 0, 1) := by decide +kernel
theorem dJ7_fill_53178_11 : decode cJ7_fill_53178 11 = .ok (.iload_n 2, 1) := by decide +kernel
theorem dJ7_fill_53178_12 : decode cJ7_fill_53178 12 = .ok (.iload_n 1, 1) := by decide +kernel
theorem dJ7_fill_53178_13 : decode cJ7_fill_53178 13 = .ok (.iastore, 1) := by decide +kernel
theorem dJ7_fill_53178_14 : decode cJ7_fill_53178 14 = .ok (.iinc 2 1, 3) := by decide +kernel
theorem dJ7_fill_53178_17 : decode cJ7_fill_53178 17 = .ok (.goto (-12), 3) := by decide +kernel
theorem dJ7_fill_53178_20 : decode cJ7_fill_53178 20 = .ok (.return_, 1) := by decide +kernel
theorem dL_law_0 : decode cL_law 0 = .ok (.new 7, 3) := by decide +kernel
theorem dL_law_3 : decode cL_law 3 = .ok (.dup, 1) := by decide +kernel
theorem dL_law_4 : decode cL_law 4 = .ok (.invokespecial 9, 3) := by decide +kernel
theorem dL_law_7 : decode cL_law 7 = .ok (.astore_n 1, 1) := by decide +kernel
theorem dL_law_8 : decode cL_law 8 = .ok (.new 10, 3) := by decide +kernel
theorem dL_law_11 : decode cL_law 11 = .ok (.dup, 1) := by decide +kernel
theorem dL_law_12 : decode cL_law 12 = .ok (.invokespecial 12, 3) := by decide +kernel
theorem dL_law_15 : decode cL_law 15 = .ok (.astore_n 2, 1) := by decide +kernel
theorem dL_law_16 : decode cL_law 16 = .ok (.iconst 0, 1) := by decide +kernel
theorem dL_law_17 : decode cL_law 17 = .ok (.istore_n 3, 1) := by decide +kernel
theorem dL_law_18 : decode cL_law 18 = .ok (.iload_n 3, 1) := by decide +kernel
theorem dL_law_19 : decode cL_law 19 = .ok (.aload_n 0, 1) := by decide +kernel
theorem dL_law_20 : decode cL_law 20 = .ok (.arraylength, 1) := by decide +kernel
theorem dL_law_21 : decode cL_law 21 = .ok (.bipush 6, 2) := by decide +kernel
theorem dL_law_23 : decode cL_law 23 = .ok (.isub, 1) := by decide +kernel
theorem dL_law_24 : decode cL_law 24 = .ok (.if_icmp .gt 450, 3) := by decide +kernel
theorem dL_law_27 : decode cL_law 27 = .ok (.aload_n 0, 1) := by decide +kernel
theorem dL_law_28 : decode cL_law 28 = .ok (.iload_n 3, 1) := by decide +kernel
theorem dL_law_29 : decode cL_law 29 = .ok (.iaload, 1) := by decide +kernel
theorem dL_law_30 : decode cL_law 30 = .ok (.bipush 15, 2) := by decide +kernel
theorem dL_law_32 : decode cL_law 32 = .ok (.iand, 1) := by decide +kernel
theorem dL_law_33 : decode cL_law 33 = .ok (.tableswitch 435 0 9 #[55, 78, 111, 164, 197, 230, 283, 346, 369, 422], 55) := by decide +kernel
theorem dL_law_88 : decode cL_law 88 = .ok (.aload_n 1, 1) := by decide +kernel
theorem dL_law_89 : decode cL_law 89 = .ok (.aload_n 0, 1) := by decide +kernel
theorem dL_law_90 : decode cL_law 90 = .ok (.iload_n 3, 1) := by decide +kernel
theorem dL_law_91 : decode cL_law 91 = .ok (.iconst 1, 1) := by decide +kernel
theorem dL_law_92 : decode cL_law 92 = .ok (.iadd, 1) := by decide +kernel
theorem dL_law_93 : decode cL_law 93 = .ok (.iaload, 1) := by decide +kernel
theorem dL_law_94 : decode cL_law 94 = .ok (.invokevirtual 13, 3) := by decide +kernel
theorem dL_law_97 : decode cL_law 97 = .ok (.aload_n 2, 1) := by decide +kernel
theorem dL_law_98 : decode cL_law 98 = .ok (.aload_n 0, 1) := by decide +kernel
theorem dL_law_99 : decode cL_law 99 = .ok (.iload_n 3, 1) := by decide +kernel
theorem dL_law_100 : decode cL_law 100 = .ok (.iconst 1, 1) := by decide +kernel
theorem dL_law_101 : decode cL_law 101 = .ok (.iadd, 1) := by decide +kernel
theorem dL_law_102 : decode cL_law 102 = .ok (.iaload, 1) := by decide +kernel
theorem dL_law_103 : decode cL_law 103 = .ok (.invokevirtual 17, 3) := by decide +kernel
theorem dL_law_106 : decode cL_law 106 = .ok (.if_icmp .eq 362, 3) := by decide +kernel
theorem dL_law_109 : decode cL_law 109 = .ok (.iconst 0, 1) := by decide +kernel
theorem dL_law_110 : decode cL_law 110 = .ok (.ireturn, 1) := by decide +kernel
theorem dL_law_111 : decode cL_law 111 = .ok (.aload_n 1, 1) := by decide +kernel
theorem dL_law_112 : decode cL_law 112 = .ok (.aload_n 0, 1) := by decide +kernel
theorem dL_law_113 : decode cL_law 113 = .ok (.iload_n 3, 1) := by decide +kernel
theorem dL_law_114 : decode cL_law 114 = .ok (.iconst 1, 1) := by decide +kernel
theorem dL_law_115 : decode cL_law 115 = .ok (.iadd, 1) := by decide +kernel
theorem dL_law_116 : decode cL_law 116 = .ok (.iaload, 1) := by decide +kernel
theorem dL_law_117 : decode cL_law 117 = .ok (.aload_n 0, 1) := by decide +kernel
theorem dL_law_118 : decode cL_law 118 = .ok (.iload_n 3, 1) := by decide +kernel
theorem dL_law_119 : decode cL_law 119 = .ok (.iconst 2, 1) := by decide +kernel
theorem dL_law_120 : decode cL_law 120 = .ok (.iadd, 1) := by decide +kernel
theorem dL_law_121 : decode cL_law 121 = .ok (.iaload, 1) := by decide +kernel
theorem dL_law_122 : decode cL_law 122 = .ok (.invokevirtual 18, 3) := by decide +kernel
theorem dL_law_125 : decode cL_law 125 = .ok (.aload_n 2, 1) := by decide +kernel
theorem dL_law_126 : decode cL_law 126 = .ok (.aload_n 0, 1) := by decide +kernel
theorem dL_law_127 : decode cL_law 127 = .ok (.iload_n 3, 1) := by decide +kernel
theorem dL_law_128 : decode cL_law 128 = .ok (.iconst 1, 1) := by decide +kernel
theorem dL_law_129 : decode cL_law 129 = .ok (.iadd, 1) := by decide +kernel
theorem dL_law_130 : decode cL_law 130 = .ok (.iaload, 1) := by decide +kernel
theorem dL_law_131 : decode cL_law 131 = .ok (.aload_n 0, 1) := by decide +kernel
theorem dL_law_132 : decode cL_law 132 = .ok (.iload_n 3, 1) := by decide +kernel
theorem dL_law_133 : decode cL_law 133 = .ok (.iconst 2, 1) := by decide +kernel
theorem dL_law_134 : decode cL_law 134 = .ok (.iadd, 1) := by decide +kernel
theorem dL_law_135 : decode cL_law 135 = .ok (.iaload, 1) := by decide +kernel
theorem dL_law_136 : decode cL_law 136 = .ok (.invokevirtual 22, 3) := by decide +kernel
theorem dL_law_139 : decode cL_law 139 = .ok (.if_icmp .eq 329, 3) := by decide +kernel
theorem dL_law_142 : decode cL_law 142 = .ok (.iconst 0, 1) := by decide +kernel
theorem dL_law_143 : decode cL_law 143 = .ok (.ireturn, 1) := by decide +kernel
theorem dL_law_144 : decode cL_law 144 = .ok (.aload_n 1, 1) := by decide +kernel
theorem dL_law_145 : decode cL_law 145 = .ok (.aload_n 0, 1) := by decide +kernel
theorem dL_law_146 : decode cL_law 146 = .ok (.iload_n 3, 1) := by decide +kernel
theorem dL_law_147 : decode cL_law 147 = .ok (.iconst 1, 1) := by decide +kernel
theorem dL_law_148 : decode cL_law 148 = .ok (.iadd, 1) := by decide +kernel
theorem dL_law_149 : decode cL_law 149 = .ok (.iaload, 1) := by decide +kernel
theorem dL_law_150 : decode cL_law 150 = .ok (.aload_n 0, 1) := by decide +kernel
theorem dL_law_151 : decode cL_law 151 = .ok (.iload_n 3, 1) := by decide +kernel
theorem dL_law_152 : decode cL_law 152 = .ok (.iconst 2, 1) := by decide +kernel
theorem dL_law_153 : decode cL_law 153 = .ok (.iadd, 1) := by decide +kernel
theorem dL_law_154 : decode cL_law 154 = .ok (.iaload, 1) := by decide +kernel
theorem dL_law_155 : decode cL_law 155 = .ok (.aload_n 0, 1) := by decide +kernel
theorem dL_law_156 : decode cL_law 156 = .ok (.iload_n 3, 1) := by decide +kernel
theorem dL_law_157 : decode cL_law 157 = .ok (.iconst 3, 1) := by decide +kernel
theorem dL_law_158 : decode cL_law 158 = .ok (.iadd, 1) := by decide +kernel
theorem dL_law_159 : decode cL_law 159 = .ok (.iaload, 1) := by decide +kernel
theorem dL_law_160 : decode cL_law 160 = .ok (.aload_n 0, 1) := by decide +kernel
theorem dL_law_161 : decode cL_law 161 = .ok (.iload_n 3, 1) := by decide +kernel
theorem dL_law_162 : decode cL_law 162 = .ok (.iconst 4, 1) := by decide +kernel
theorem dL_law_163 : decode cL_law 163 = .ok (.iadd, 1) := by decide +kernel
theorem dL_law_164 : decode cL_law 164 = .ok (.iaload, 1) := by decide +kernel
theorem dL_law_165 : decode cL_law 165 = .ok (.invokevirtual 23, 3) := by decide +kernel
theorem dL_law_168 : decode cL_law 168 = .ok (.aload_n 2, 1) := by decide +kernel
theorem dL_law_169 : decode cL_law 169 = .ok (.aload_n 0, 1) := by decide +kernel
theorem dL_law_170 : decode cL_law 170 = .ok (.iload_n 3, 1) := by decide +kernel
theorem dL_law_171 : decode cL_law 171 = .ok (.iconst 1, 1) := by decide +kernel
theorem dL_law_172 : decode cL_law 172 = .ok (.iadd, 1) := by decide +kernel
theorem dL_law_173 : decode cL_law 173 = .ok (.iaload, 1) := by decide +kernel
theorem dL_law_174 : decode cL_law 174 = .ok (.aload_n 0, 1) := by decide +kernel
theorem dL_law_175 : decode cL_law 175 = .ok (.iload_n 3, 1) := by decide +kernel
theorem dL_law_176 : decode cL_law 176 = .ok (.iconst 2, 1) := by decide +kernel
theorem dL_law_177 : decode cL_law 177 = .ok (.iadd, 1) := by decide +kernel
theorem dL_law_178 : decode cL_law 178 = .ok (.iaload, 1) := by decide +kernel
theorem dL_law_179 : decode cL_law 179 = .ok (.aload_n 0, 1) := by decide +kernel
theorem dL_law_180 : decode cL_law 180 = .ok (.iload_n 3, 1) := by decide +kernel
theorem dL_law_181 : decode cL_law 181 = .ok (.iconst 3, 1) := by decide +kernel
theorem dL_law_182 : decode cL_law 182 = .ok (.iadd, 1) := by decide +kernel
theorem dL_law_183 : decode cL_law 183 = .ok (.iaload, 1) := by decide +kernel
theorem dL_law_184 : decode cL_law 184 = .ok (.aload_n 0, 1) := by decide +kernel
theorem dL_law_185 : decode cL_law 185 = .ok (.iload_n 3, 1) := by decide +kernel
theorem dL_law_186 : decode cL_law 186 = .ok (.iconst 4, 1) := by decide +kernel
theorem dL_law_187 : decode cL_law 187 = .ok (.iadd, 1) := by decide +kernel
theorem dL_law_188 : decode cL_law 188 = .ok (.iaload, 1) := by decide +kernel
theorem dL_law_189 : decode cL_law 189 = .ok (.invokevirtual 27, 3) := by decide +kernel
theorem dL_law_192 : decode cL_law 192 = .ok (.if_icmp .eq 276, 3) := by decide +kernel
theorem dL_law_195 : decode cL_law 195 = .ok (.iconst 0, 1) := by decide +kernel
theorem dL_law_196 : decode cL_law 196 = .ok (.ireturn, 1) := by decide +kernel
theorem dL_law_197 : decode cL_law 197 = .ok (.aload_n 1, 1) := by decide +kernel
theorem dL_law_198 : decode cL_law 198 = .ok (.aload_n 0, 1) := by decide +kernel
theorem dL_law_199 : decode cL_law 199 = .ok (.iload_n 3, 1) := by decide +kernel
theorem dL_law_200 : decode cL_law 200 = .ok (.iconst 1, 1) := by decide +kernel
theorem dL_law_201 : decode cL_law 201 = .ok (.iadd, 1) := by decide +kernel
theorem dL_law_202 : decode cL_law 202 = .ok (.iaload, 1) := by decide +kernel
theorem dL_law_203 : decode cL_law 203 = .ok (.aload_n 0, 1) := by decide +kernel
theorem dL_law_204 : decode cL_law 204 = .ok (.iload_n 3, 1) := by decide +kernel
theorem dL_law_205 : decode cL_law 205 = .ok (.iconst 2, 1) := by decide +kernel
theorem dL_law_206 : decode cL_law 206 = .ok (.iadd, 1) := by decide +kernel
theorem dL_law_207 : decode cL_law 207 = .ok (.iaload, 1) := by decide +kernel
theorem dL_law_208 : decode cL_law 208 = .ok (.invokevirtual 28, 3) := by decide +kernel
theorem dL_law_211 : decode cL_law 211 = .ok (.aload_n 2, 1) := by decide +kernel
theorem dL_law_212 : decode cL_law 212 = .ok (.aload_n 0, 1) := by decide +kernel
theorem dL_law_213 : decode cL_law 213 = .ok (.iload_n 3, 1) := by decide +kernel
theorem dL_law_214 : decode cL_law 214 = .ok (.iconst 1, 1) := by decide +kernel
theorem dL_law_215 : decode cL_law 215 = .ok (.iadd, 1) := by decide +kernel
theorem dL_law_216 : decode cL_law 216 = .ok (.iaload, 1) := by decide +kernel
theorem dL_law_217 : decode cL_law 217 = .ok (.aload_n 0, 1) := by decide +kernel
theorem dL_law_218 : decode cL_law 218 = .ok (.iload_n 3, 1) := by decide +kernel
theorem dL_law_219 : decode cL_law 219 = .ok (.iconst 2, 1) := by decide +kernel
theorem dL_law_220 : decode cL_law 220 = .ok (.iadd, 1) := by decide +kernel
theorem dL_law_221 : decode cL_law 221 = .ok (.iaload, 1) := by decide +kernel
theorem dL_law_222 : decode cL_law 222 = .ok (.invokevirtual 31, 3) := by decide +kernel
theorem dL_law_225 : decode cL_law 225 = .ok (.if_icmp .eq 243, 3) := by decide +kernel
theorem dL_law_228 : decode cL_law 228 = .ok (.iconst 0, 1) := by decide +kernel
theorem dL_law_229 : decode cL_law 229 = .ok (.ireturn, 1) := by decide +kernel
theorem dL_law_230 : decode cL_law 230 = .ok (.aload_n 1, 1) := by decide +kernel
theorem dL_law_231 : decode cL_law 231 = .ok (.aload_n 0, 1) := by decide +kernel
theorem dL_law_232 : decode cL_law 232 = .ok (.iload_n 3, 1) := by decide +kernel
theorem dL_law_233 : decode cL_law 233 = .ok (.iconst 1, 1) := by decide +kernel
theorem dL_law_234 : decode cL_law 234 = .ok (.iadd, 1) := by decide +kernel
theorem dL_law_235 : decode cL_law 235 = .ok (.iaload, 1) := by decide +kernel
theorem dL_law_236 : decode cL_law 236 = .ok (.aload_n 0, 1) := by decide +kernel
theorem dL_law_237 : decode cL_law 237 = .ok (.iload_n 3, 1) := by decide +kernel
theorem dL_law_238 : decode cL_law 238 = .ok (.iconst 2, 1) := by decide +kernel
theorem dL_law_239 : decode cL_law 239 = .ok (.iadd, 1) := by decide +kernel
theorem dL_law_240 : decode cL_law 240 = .ok (.iaload, 1) := by decide +kernel
theorem dL_law_241 : decode cL_law 241 = .ok (.invokevirtual 32, 3) := by decide +kernel
theorem dL_law_244 : decode cL_law 244 = .ok (.aload_n 2, 1) := by decide +kernel
theorem dL_law_245 : decode cL_law 245 = .ok (.aload_n 0, 1) := by decide +kernel
theorem dL_law_246 : decode cL_law 246 = .ok (.iload_n 3, 1) := by decide +kernel
theorem dL_law_247 : decode cL_law 247 = .ok (.iconst 1, 1) := by decide +kernel
theorem dL_law_248 : decode cL_law 248 = .ok (.iadd, 1) := by decide +kernel
theorem dL_law_249 : decode cL_law 249 = .ok (.iaload, 1) := by decide +kernel
theorem dL_law_250 : decode cL_law 250 = .ok (.aload_n 0, 1) := by decide +kernel
theorem dL_law_251 : decode cL_law 251 = .ok (.iload_n 3, 1) := by decide +kernel
theorem dL_law_252 : decode cL_law 252 = .ok (.iconst 2, 1) := by decide +kernel
theorem dL_law_253 : decode cL_law 253 = .ok (.iadd, 1) := by decide +kernel
theorem dL_law_254 : decode cL_law 254 = .ok (.iaload, 1) := by decide +kernel
theorem dL_law_255 : decode cL_law 255 = .ok (.invokevirtual 36, 3) := by decide +kernel
theorem dL_law_258 : decode cL_law 258 = .ok (.if_icmp .eq 210, 3) := by decide +kernel
theorem dL_law_261 : decode cL_law 261 = .ok (.iconst 0, 1) := by decide +kernel
theorem dL_law_262 : decode cL_law 262 = .ok (.ireturn, 1) := by decide +kernel
theorem dL_law_263 : decode cL_law 263 = .ok (.aload_n 1, 1) := by decide +kernel
theorem dL_law_264 : decode cL_law 264 = .ok (.aload_n 0, 1) := by decide +kernel
theorem dL_law_265 : decode cL_law 265 = .ok (.iload_n 3, 1) := by decide +kernel
theorem dL_law_266 : decode cL_law 266 = .ok (.iconst 1, 1) := by decide +kernel
theorem dL_law_267 : decode cL_law 267 = .ok (.iadd, 1) := by decide +kernel
theorem dL_law_268 : decode cL_law 268 = .ok (.iaload, 1) := by decide +kernel
theorem dL_law_269 : decode cL_law 269 = .ok (.aload_n 0, 1) := by decide +kernel
theorem dL_law_270 : decode cL_law 270 = .ok (.iload_n 3, 1) := by decide +kernel
theorem dL_law_271 : decode cL_law 271 = .ok (.iconst 2, 1) := by decide +kernel
theorem dL_law_272 : decode cL_law 272 = .ok (.iadd, 1) := by decide +kernel
theorem dL_law_273 : decode cL_law 273 = .ok (.iaload, 1) := by decide +kernel
theorem dL_law_274 : decode cL_law 274 = .ok (.aload_n 0, 1) := by decide +kernel
theorem dL_law_275 : decode cL_law 275 = .ok (.iload_n 3, 1) := by decide +kernel
theorem dL_law_276 : decode cL_law 276 = .ok (.iconst 3, 1) := by decide +kernel
theorem dL_law_277 : decode cL_law 277 = .ok (.iadd, 1) := by decide +kernel
theorem dL_law_278 : decode cL_law 278 = .ok (.iaload, 1) := by decide +kernel
theorem dL_law_279 : decode cL_law 279 = .ok (.aload_n 0, 1) := by decide +kernel
theorem dL_law_280 : decode cL_law 280 = .ok (.iload_n 3, 1) := by decide +kernel
theorem dL_law_281 : decode cL_law 281 = .ok (.iconst 4, 1) := by decide +kernel
theorem dL_law_282 : decode cL_law 282 = .ok (.iadd, 1) := by decide +kernel
theorem dL_law_283 : decode cL_law 283 = .ok (.iaload, 1) := by decide +kernel
theorem dL_law_284 : decode cL_law 284 = .ok (.invokevirtual 37, 3) := by decide +kernel
theorem dL_law_287 : decode cL_law 287 = .ok (.aload_n 2, 1) := by decide +kernel
theorem dL_law_288 : decode cL_law 288 = .ok (.aload_n 0, 1) := by decide +kernel
theorem dL_law_289 : decode cL_law 289 = .ok (.iload_n 3, 1) := by decide +kernel
theorem dL_law_290 : decode cL_law 290 = .ok (.iconst 1, 1) := by decide +kernel
theorem dL_law_291 : decode cL_law 291 = .ok (.iadd, 1) := by decide +kernel
theorem dL_law_292 : decode cL_law 292 = .ok (.iaload, 1) := by decide +kernel
theorem dL_law_293 : decode cL_law 293 = .ok (.aload_n 0, 1) := by decide +kernel
theorem dL_law_294 : decode cL_law 294 = .ok (.iload_n 3, 1) := by decide +kernel
theorem dL_law_295 : decode cL_law 295 = .ok (.iconst 2, 1) := by decide +kernel
theorem dL_law_296 : decode cL_law 296 = .ok (.iadd, 1) := by decide +kernel
theorem dL_law_297 : decode cL_law 297 = .ok (.iaload, 1) := by decide +kernel
theorem dL_law_298 : decode cL_law 298 = .ok (.aload_n 0, 1) := by decide +kernel
theorem dL_law_299 : decode cL_law 299 = .ok (.iload_n 3, 1) := by decide +kernel
theorem dL_law_300 : decode cL_law 300 = .ok (.iconst 3, 1) := by decide +kernel
theorem dL_law_301 : decode cL_law 301 = .ok (.iadd, 1) := by decide +kernel
theorem dL_law_302 : decode cL_law 302 = .ok (.iaload, 1) := by decide +kernel
theorem dL_law_303 : decode cL_law 303 = .ok (.aload_n 0, 1) := by decide +kernel
theorem dL_law_304 : decode cL_law 304 = .ok (.iload_n 3, 1) := by decide +kernel
theorem dL_law_305 : decode cL_law 305 = .ok (.iconst 4, 1) := by decide +kernel
theorem dL_law_306 : decode cL_law 306 = .ok (.iadd, 1) := by decide +kernel
theorem dL_law_307 : decode cL_law 307 = .ok (.iaload, 1) := by decide +kernel
theorem dL_law_308 : decode cL_law 308 = .ok (.invokevirtual 40, 3) := by decide +kernel
theorem dL_law_311 : decode cL_law 311 = .ok (.if_icmp .eq 157, 3) := by decide +kernel
theorem dL_law_314 : decode cL_law 314 = .ok (.iconst 0, 1) := by decide +kernel
theorem dL_law_315 : decode cL_law 315 = .ok (.ireturn, 1) := by decide +kernel
theorem dL_law_316 : decode cL_law 316 = .ok (.aload_n 1, 1) := by decide +kernel
theorem dL_law_317 : decode cL_law 317 = .ok (.aload_n 0, 1) := by decide +kernel
theorem dL_law_318 : decode cL_law 318 = .ok (.iload_n 3, 1) := by decide +kernel
theorem dL_law_319 : decode cL_law 319 = .ok (.iconst 1, 1) := by decide +kernel
theorem dL_law_320 : decode cL_law 320 = .ok (.iadd, 1) := by decide +kernel
theorem dL_law_321 : decode cL_law 321 = .ok (.iaload, 1) := by decide +kernel
theorem dL_law_322 : decode cL_law 322 = .ok (.aload_n 0, 1) := by decide +kernel
theorem dL_law_323 : decode cL_law 323 = .ok (.iload_n 3, 1) := by decide +kernel
theorem dL_law_324 : decode cL_law 324 = .ok (.iconst 2, 1) := by decide +kernel
theorem dL_law_325 : decode cL_law 325 = .ok (.iadd, 1) := by decide +kernel
theorem dL_law_326 : decode cL_law 326 = .ok (.iaload, 1) := by decide +kernel
theorem dL_law_327 : decode cL_law 327 = .ok (.aload_n 0, 1) := by decide +kernel
theorem dL_law_328 : decode cL_law 328 = .ok (.iload_n 3, 1) := by decide +kernel
theorem dL_law_329 : decode cL_law 329 = .ok (.iconst 3, 1) := by decide +kernel
theorem dL_law_330 : decode cL_law 330 = .ok (.iadd, 1) := by decide +kernel
theorem dL_law_331 : decode cL_law 331 = .ok (.iaload, 1) := by decide +kernel
theorem dL_law_332 : decode cL_law 332 = .ok (.aload_n 0, 1) := by decide +kernel
theorem dL_law_333 : decode cL_law 333 = .ok (.iload_n 3, 1) := by decide +kernel
theorem dL_law_334 : decode cL_law 334 = .ok (.iconst 4, 1) := by decide +kernel
theorem dL_law_335 : decode cL_law 335 = .ok (.iadd, 1) := by decide +kernel
theorem dL_law_336 : decode cL_law 336 = .ok (.iaload, 1) := by decide +kernel
theorem dL_law_337 : decode cL_law 337 = .ok (.aload_n 0, 1) := by decide +kernel
theorem dL_law_338 : decode cL_law 338 = .ok (.iload_n 3, 1) := by decide +kernel
theorem dL_law_339 : decode cL_law 339 = .ok (.iconst 5, 1) := by decide +kernel
theorem dL_law_340 : decode cL_law 340 = .ok (.iadd, 1) := by decide +kernel
theorem dL_law_341 : decode cL_law 341 = .ok (.iaload, 1) := by decide +kernel
theorem dL_law_342 : decode cL_law 342 = .ok (.invokevirtual 41, 3) := by decide +kernel
theorem dL_law_345 : decode cL_law 345 = .ok (.aload_n 2, 1) := by decide +kernel
theorem dL_law_346 : decode cL_law 346 = .ok (.aload_n 0, 1) := by decide +kernel
theorem dL_law_347 : decode cL_law 347 = .ok (.iload_n 3, 1) := by decide +kernel
theorem dL_law_348 : decode cL_law 348 = .ok (.iconst 1, 1) := by decide +kernel
theorem dL_law_349 : decode cL_law 349 = .ok (.iadd, 1) := by decide +kernel
theorem dL_law_350 : decode cL_law 350 = .ok (.iaload, 1) := by decide +kernel
theorem dL_law_351 : decode cL_law 351 = .ok (.aload_n 0, 1) := by decide +kernel
theorem dL_law_352 : decode cL_law 352 = .ok (.iload_n 3, 1) := by decide +kernel
theorem dL_law_353 : decode cL_law 353 = .ok (.iconst 2, 1) := by decide +kernel
theorem dL_law_354 : decode cL_law 354 = .ok (.iadd, 1) := by decide +kernel
theorem dL_law_355 : decode cL_law 355 = .ok (.iaload, 1) := by decide +kernel
theorem dL_law_356 : decode cL_law 356 = .ok (.aload_n 0, 1) := by decide +kernel
theorem dL_law_357 : decode cL_law 357 = .ok (.iload_n 3, 1) := by decide +kernel
theorem dL_law_358 : decode cL_law 358 = .ok (.iconst 3, 1) := by decide +kernel
theorem dL_law_359 : decode cL_law 359 = .ok (.iadd, 1) := by decide +kernel
theorem dL_law_360 : decode cL_law 360 = .ok (.iaload, 1) := by decide +kernel
theorem dL_law_361 : decode cL_law 361 = .ok (.aload_n 0, 1) := by decide +kernel
theorem dL_law_362 : decode cL_law 362 = .ok (.iload_n 3, 1) := by decide +kernel
theorem dL_law_363 : decode cL_law 363 = .ok (.iconst 4, 1) := by decide +kernel
theorem dL_law_364 : decode cL_law 364 = .ok (.iadd, 1) := by decide +kernel
theorem dL_law_365 : decode cL_law 365 = .ok (.iaload, 1) := by decide +kernel
theorem dL_law_366 : decode cL_law 366 = .ok (.aload_n 0, 1) := by decide +kernel
theorem dL_law_367 : decode cL_law 367 = .ok (.iload_n 3, 1) := by decide +kernel
theorem dL_law_368 : decode cL_law 368 = .ok (.iconst 5, 1) := by decide +kernel
theorem dL_law_369 : decode cL_law 369 = .ok (.iadd, 1) := by decide +kernel
theorem dL_law_370 : decode cL_law 370 = .ok (.iaload, 1) := by decide +kernel
theorem dL_law_371 : decode cL_law 371 = .ok (.invokevirtual 45, 3) := by decide +kernel
theorem dL_law_374 : decode cL_law 374 = .ok (.if_icmp .eq 94, 3) := by decide +kernel
theorem dL_law_377 : decode cL_law 377 = .ok (.iconst 0, 1) := by decide +kernel
theorem dL_law_378 : decode cL_law 378 = .ok (.ireturn, 1) := by decide +kernel
theorem dL_law_379 : decode cL_law 379 = .ok (.aload_n 1, 1) := by decide +kernel
theorem dL_law_380 : decode cL_law 380 = .ok (.aload_n 0, 1) := by decide +kernel
theorem dL_law_381 : decode cL_law 381 = .ok (.iload_n 3, 1) := by decide +kernel
theorem dL_law_382 : decode cL_law 382 = .ok (.iconst 1, 1) := by decide +kernel
theorem dL_law_383 : decode cL_law 383 = .ok (.iadd, 1) := by decide +kernel
theorem dL_law_384 : decode cL_law 384 = .ok (.iaload, 1) := by decide +kernel
theorem dL_law_385 : decode cL_law 385 = .ok (.invokevirtual 46, 3) := by decide +kernel
theorem dL_law_388 : decode cL_law 388 = .ok (.aload_n 2, 1) := by decide +kernel
theorem dL_law_389 : decode cL_law 389 = .ok (.aload_n 0, 1) := by decide +kernel
theorem dL_law_390 : decode cL_law 390 = .ok (.iload_n 3, 1) := by decide +kernel
theorem dL_law_391 : decode cL_law 391 = .ok (.iconst 1, 1) := by decide +kernel
theorem dL_law_392 : decode cL_law 392 = .ok (.iadd, 1) := by decide +kernel
theorem dL_law_393 : decode cL_law 393 = .ok (.iaload, 1) := by decide +kernel
theorem dL_law_394 : decode cL_law 394 = .ok (.invokevirtual 49, 3) := by decide +kernel
theorem dL_law_397 : decode cL_law 397 = .ok (.if_icmp .eq 71, 3) := by decide +kernel
theorem dL_law_400 : decode cL_law 400 = .ok (.iconst 0, 1) := by decide +kernel
theorem dL_law_401 : decode cL_law 401 = .ok (.ireturn, 1) := by decide +kernel
theorem dL_law_402 : decode cL_law 402 = .ok (.aload_n 1, 1) := by decide +kernel
theorem dL_law_403 : decode cL_law 403 = .ok (.aload_n 0, 1) := by decide +kernel
theorem dL_law_404 : decode cL_law 404 = .ok (.iload_n 3, 1) := by decide +kernel
theorem dL_law_405 : decode cL_law 405 = .ok (.iconst 1, 1) := by decide +kernel
theorem dL_law_406 : decode cL_law 406 = .ok (.iadd, 1) := by decide +kernel
theorem dL_law_407 : decode cL_law 407 = .ok (.iaload, 1) := by decide +kernel
theorem dL_law_408 : decode cL_law 408 = .ok (.aload_n 0, 1) := by decide +kernel
theorem dL_law_409 : decode cL_law 409 = .ok (.iload_n 3, 1) := by decide +kernel
theorem dL_law_410 : decode cL_law 410 = .ok (.iconst 2, 1) := by decide +kernel
theorem dL_law_411 : decode cL_law 411 = .ok (.iadd, 1) := by decide +kernel
theorem dL_law_412 : decode cL_law 412 = .ok (.iaload, 1) := by decide +kernel
theorem dL_law_413 : decode cL_law 413 = .ok (.aload_n 0, 1) := by decide +kernel
theorem dL_law_414 : decode cL_law 414 = .ok (.iload_n 3, 1) := by decide +kernel
theorem dL_law_415 : decode cL_law 415 = .ok (.iconst 3, 1) := by decide +kernel
theorem dL_law_416 : decode cL_law 416 = .ok (.iadd, 1) := by decide +kernel
theorem dL_law_417 : decode cL_law 417 = .ok (.iaload, 1) := by decide +kernel
theorem dL_law_418 : decode cL_law 418 = .ok (.aload_n 0, 1) := by decide +kernel
theorem dL_law_419 : decode cL_law 419 = .ok (.iload_n 3, 1) := by decide +kernel
theorem dL_law_420 : decode cL_law 420 = .ok (.iconst 4, 1) := by decide +kernel
theorem dL_law_421 : decode cL_law 421 = .ok (.iadd, 1) := by decide +kernel
theorem dL_law_422 : decode cL_law 422 = .ok (.iaload, 1) := by decide +kernel
theorem dL_law_423 : decode cL_law 423 = .ok (.invokevirtual 50, 3) := by decide +kernel
theorem dL_law_426 : decode cL_law 426 = .ok (.aload_n 2, 1) := by decide +kernel
theorem dL_law_427 : decode cL_law 427 = .ok (.aload_n 0, 1) := by decide +kernel
theorem dL_law_428 : decode cL_law 428 = .ok (.iload_n 3, 1) := by decide +kernel
theorem dL_law_429 : decode cL_law 429 = .ok (.iconst 1, 1) := by decide +kernel
theorem dL_law_430 : decode cL_law 430 = .ok (.iadd, 1) := by decide +kernel
theorem dL_law_431 : decode cL_law 431 = .ok (.iaload, 1) := by decide +kernel
theorem dL_law_432 : decode cL_law 432 = .ok (.aload_n 0, 1) := by decide +kernel
theorem dL_law_433 : decode cL_law 433 = .ok (.iload_n 3, 1) := by decide +kernel
theorem dL_law_434 : decode cL_law 434 = .ok (.iconst 2, 1) := by decide +kernel
theorem dL_law_435 : decode cL_law 435 = .ok (.iadd, 1) := by decide +kernel
theorem dL_law_436 : decode cL_law 436 = .ok (.iaload, 1) := by decide +kernel
theorem dL_law_437 : decode cL_law 437 = .ok (.aload_n 0, 1) := by decide +kernel
theorem dL_law_438 : decode cL_law 438 = .ok (.iload_n 3, 1) := by decide +kernel
theorem dL_law_439 : decode cL_law 439 = .ok (.iconst 3, 1) := by decide +kernel
theorem dL_law_440 : decode cL_law 440 = .ok (.iadd, 1) := by decide +kernel
theorem dL_law_441 : decode cL_law 441 = .ok (.iaload, 1) := by decide +kernel
theorem dL_law_442 : decode cL_law 442 = .ok (.aload_n 0, 1) := by decide +kernel
theorem dL_law_443 : decode cL_law 443 = .ok (.iload_n 3, 1) := by decide +kernel
theorem dL_law_444 : decode cL_law 444 = .ok (.iconst 4, 1) := by decide +kernel
theorem dL_law_445 : decode cL_law 445 = .ok (.iadd, 1) := by decide +kernel
theorem dL_law_446 : decode cL_law 446 = .ok (.iaload, 1) := by decide +kernel
theorem dL_law_447 : decode cL_law 447 = .ok (.invokevirtual 53, 3) := by decide +kernel
theorem dL_law_450 : decode cL_law 450 = .ok (.if_icmp .eq 18, 3) := by decide +kernel
theorem dL_law_453 : decode cL_law 453 = .ok (.iconst 0, 1) := by decide +kernel
theorem dL_law_454 : decode cL_law 454 = .ok (.ireturn, 1) := by decide +kernel
theorem dL_law_455 : decode cL_law 455 = .ok (.aload_n 1, 1) := by decide +kernel
theorem dL_law_456 : decode cL_law 456 = .ok (.invokevirtual 54, 3) := by decide +kernel
theorem dL_law_459 : decode cL_law 459 = .ok (.aload_n 2, 1) := by decide +kernel
theorem dL_law_460 : decode cL_law 460 = .ok (.invokevirtual 58, 3) := by decide +kernel
theorem dL_law_463 : decode cL_law 463 = .ok (.if_icmp .eq 5, 3) := by decide +kernel
theorem dL_law_466 : decode cL_law 466 = .ok (.iconst 0, 1) := by decide +kernel
theorem dL_law_467 : decode cL_law 467 = .ok (.ireturn, 1) := by decide +kernel
theorem dL_law_468 : decode cL_law 468 = .ok (.iinc 3 6, 3) := by decide +kernel
theorem dL_law_471 : decode cL_law 471 = .ok (.goto (-453), 3) := by decide +kernel
theorem dL_law_474 : decode cL_law 474 = .ok (.iconst 1, 1) := by decide +kernel
theorem dL_law_475 : decode cL_law 475 = .ok (.ireturn, 1) := by decide +kernel
end
section
/-! The pure heap: kinds of addresses, the fields by class, slot and address, arrays by address and place, the next address. Kind c + 1: an object of class c of vwCl; 100: ints; 101: booleans; 102 + c: references to class c; 0: none of ours. -/
abbrev zH : Type := (Nat → Nat) × (Nat → Nat → Nat → Int32) × (Nat → Nat → Nat → Option Nat) × (Nat → Nat) × (Nat → Nat → Int32) × (Nat → Nat → Option Nat) × Nat
def zk (h : zH) : Nat → Nat := h.1
def zi (h : zH) : Nat → Nat → Nat → Int32 := h.2.1
def zr (h : zH) : Nat → Nat → Nat → Option Nat := h.2.2.1
def zl (h : zH) : Nat → Nat := h.2.2.2.1
def za (h : zH) : Nat → Nat → Int32 := h.2.2.2.2.1
def zq (h : zH) : Nat → Nat → Option Nat := h.2.2.2.2.2.1
def zs (h : zH) : Nat := h.2.2.2.2.2.2
def sti (c k a : Nat) (v : Int32) (h : zH) : zH := (zk h, fun c' k' a' => if c' = c ∧ k' = k ∧ a' = a then v else zi h c' k' a', zr h, zl h, za h, zq h, zs h)
def str (c k a : Nat) (v : Option Nat) (h : zH) : zH := (zk h, zi h, fun c' k' a' => if c' = c ∧ k' = k ∧ a' = a then v else zr h c' k' a', zl h, za h, zq h, zs h)
def sta (a j : Nat) (v : Int32) (h : zH) : zH := (zk h, zi h, zr h, zl h, fun a' j' => if a' = a ∧ j' = j then v else za h a' j', zq h, zs h)
def stq (a j : Nat) (v : Option Nat) (h : zH) : zH := (zk h, zi h, zr h, zl h, za h, fun a' j' => if a' = a ∧ j' = j then v else zq h a' j', zs h)
def nwO (c : Nat) (h : zH) : zH := (fun a' => if a' = zs h then c + 1 else zk h a', fun c' k' a' => if a' = zs h then 0 else zi h c' k' a', fun c' k' a' => if a' = zs h then none else zr h c' k' a', zl h, za h, zq h, zs h + 1)
def nwA (κ n : Nat) (h : zH) : zH := (fun a' => if a' = zs h then κ else zk h a', zi h, zr h, fun a' => if a' = zs h then n else zl h a', fun a' j' => if a' = zs h then 0 else za h a' j', fun a' j' => if a' = zs h then none else zq h a' j', zs h + 1)
-- a program's steps on it
def gI (c k : Nat) (r : Option Nat) (h : zH) : Option Int32 := match r with
  | some a => if zk h a = c + 1 then some (zi h c k a) else none
  | none => none
def gR (c k : Nat) (r : Option Nat) (h : zH) : Option (Option Nat) := match r with
  | some a => if zk h a = c + 1 then some (zr h c k a) else none
  | none => none
def pI (c k : Nat) (r : Option Nat) (v : Int32) (h : zH) : Option zH := match r with
  | some a => if zk h a = c + 1 then some (sti c k a v h) else none
  | none => none
def pZ (c k : Nat) (r : Option Nat) (v : Int32) (h : zH) : Option zH := match r with
  | some a => if zk h a = c + 1 ∧ (v = 0 ∨ v = 1) then some (sti c k a v h) else none
  | none => none
def pR (c k : Nat) (r : Option Nat) (v : Option Nat) (h : zH) : Option zH := match r with
  | some a => if zk h a = c + 1 then some (str c k a v h) else none
  | none => none
def aI (κ : Nat) (r : Option Nat) (i : Int32) (h : zH) : Option Int32 := match r with
  | some a => if zk h a = κ ∧ ¬ (i < 0 ∨ zl h a ≤ i.toNatClampNeg) then some (za h a i.toNatClampNeg) else none
  | none => none
def aQ (κ : Nat) (r : Option Nat) (i : Int32) (h : zH) : Option (Option Nat) := match r with
  | some a => if zk h a = κ ∧ ¬ (i < 0 ∨ zl h a ≤ i.toNatClampNeg) then some (zq h a i.toNatClampNeg) else none
  | none => none
def sI (r : Option Nat) (i v : Int32) (h : zH) : Option zH := match r with
  | some a => if zk h a = 100 ∧ ¬ (i < 0 ∨ zl h a ≤ i.toNatClampNeg) then some (sta a i.toNatClampNeg v h) else none
  | none => none
def sZ (r : Option Nat) (i v : Int32) (h : zH) : Option zH := match r with
  | some a => if zk h a = 101 ∧ ¬ (i < 0 ∨ zl h a ≤ i.toNatClampNeg) ∧ (v = 0 ∨ v = 1) then some (sta a i.toNatClampNeg v h) else none
  | none => none
def sQ (c : Nat) (r : Option Nat) (i : Int32) (v : Option Nat) (h : zH) : Option zH := match r, v with
  | some a, some b => if zk h a = 102 + c ∧ ¬ (i < 0 ∨ zl h a ≤ i.toNatClampNeg) ∧ zk h b = c + 1 then some (stq a i.toNatClampNeg (some b) h) else none
  | _, _ => none
def lA (κ : Nat) (r : Option Nat) (h : zH) : Option Int32 := match r with
  | some a => if zk h a = κ then some (Int32.ofNat (zl h a)) else none
  | none => none
/-- a receiver -/
def rc (c : Nat) (r : Option Nat) (h : zH) : Option Nat := match r with
  | some a => if zk h a = c + 1 then some a else none
  | none => none
theorem gI_spec {c k : Nat} {r : Option Nat} {h : zH} {v : Int32} (e : gI c k r h = some v) : ∃ a, r = some a ∧ zk h a = c + 1 ∧ zi h c k a = v := by
  cases r with
  | none => simp [gI] at e
  | some a =>
    simp only [gI] at e
    split at e
    · exact ⟨a, rfl, by assumption, Option.some.inj e⟩
    · cases e
theorem gR_spec {c k : Nat} {r : Option Nat} {h : zH} {v : Option Nat} (e : gR c k r h = some v) : ∃ a, r = some a ∧ zk h a = c + 1 ∧ zr h c k a = v := by
  cases r with
  | none => simp [gR] at e
  | some a =>
    simp only [gR] at e
    split at e
    · exact ⟨a, rfl, by assumption, Option.some.inj e⟩
    · cases e
theorem pI_spec {c k : Nat} {r : Option Nat} {v : Int32} {h h' : zH} (e : pI c k r v h = some h') : ∃ a, r = some a ∧ zk h a = c + 1 ∧ sti c k a v h = h' := by
  cases r with
  | none => simp [pI] at e
  | some a =>
    simp only [pI] at e
    split at e
    · exact ⟨a, rfl, by assumption, Option.some.inj e⟩
    · cases e
theorem pZ_spec {c k : Nat} {r : Option Nat} {v : Int32} {h h' : zH} (e : pZ c k r v h = some h') : (v = 0 ∨ v = 1) ∧ pI c k r v h = some h' := by
  cases r with
  | none => simp [pZ] at e
  | some a =>
    simp only [pZ] at e
    split at e
    · next q => exact ⟨q.2, by simp only [pI, q.1, if_true]; exact e⟩
    · cases e
theorem pR_spec {c k : Nat} {r : Option Nat} {v : Option Nat} {h h' : zH} (e : pR c k r v h = some h') : ∃ a, r = some a ∧ zk h a = c + 1 ∧ str c k a v h = h' := by
  cases r with
  | none => simp [pR] at e
  | some a =>
    simp only [pR] at e
    split at e
    · exact ⟨a, rfl, by assumption, Option.some.inj e⟩
    · cases e
theorem aI_spec {κ : Nat} {r : Option Nat} {i : Int32} {h : zH} {v : Int32} (e : aI κ r i h = some v) : ∃ a, r = some a ∧ zk h a = κ ∧ vp_in i (zl h a) ∧ za h a i.toNatClampNeg = v := by
  cases r with
  | none => simp [aI] at e
  | some a =>
    simp only [aI] at e
    split at e
    · next q => exact ⟨a, rfl, q.1, q.2, Option.some.inj e⟩
    · cases e
theorem aQ_spec {κ : Nat} {r : Option Nat} {i : Int32} {h : zH} {v : Option Nat} (e : aQ κ r i h = some v) : ∃ a, r = some a ∧ zk h a = κ ∧ vp_in i (zl h a) ∧ zq h a i.toNatClampNeg = v := by
  cases r with
  | none => simp [aQ] at e
  | some a =>
    simp only [aQ] at e
    split at e
    · next q => exact ⟨a, rfl, q.1, q.2, Option.some.inj e⟩
    · cases e
theorem sI_spec {r : Option Nat} {i v : Int32} {h h' : zH} (e : sI r i v h = some h') : ∃ a, r = some a ∧ zk h a = 100 ∧ vp_in i (zl h a) ∧ sta a i.toNatClampNeg v h = h' := by
  cases r with
  | none => simp [sI] at e
  | some a =>
    simp only [sI] at e
    split at e
    · next q => exact ⟨a, rfl, q.1, q.2, Option.some.inj e⟩
    · cases e
theorem sZ_spec {r : Option Nat} {i v : Int32} {h h' : zH} (e : sZ r i v h = some h') : ∃ a, r = some a ∧ zk h a = 101 ∧ vp_in i (zl h a) ∧ (v = 0 ∨ v = 1) ∧ sta a i.toNatClampNeg v h = h' := by
  cases r with
  | none => simp [sZ] at e
  | some a =>
    simp only [sZ] at e
    split at e
    · next q => exact ⟨a, rfl, q.1, q.2.1, q.2.2, Option.some.inj e⟩
    · cases e
theorem sQ_spec {c : Nat} {r : Option Nat} {i : Int32} {v : Option Nat} {h h' : zH} (e : sQ c r i v h = some h') : ∃ a b, r = some a ∧ v = some b ∧ zk h a = 102 + c ∧ vp_in i (zl h a) ∧ zk h b = c + 1 ∧ stq a i.toNatClampNeg (some b) h = h' := by
  cases r with
  | none => simp [sQ] at e
  | some a =>
    cases v with
    | none => simp [sQ] at e
    | some b =>
      simp only [sQ] at e
      split at e
      · next q => exact ⟨a, b, rfl, rfl, q.1, q.2.1, q.2.2, Option.some.inj e⟩
      · cases e
theorem lA_spec {κ : Nat} {r : Option Nat} {h : zH} {v : Int32} (e : lA κ r h = some v) : ∃ a, r = some a ∧ zk h a = κ ∧ Int32.ofNat (zl h a) = v := by
  cases r with
  | none => simp [lA] at e
  | some a =>
    simp only [lA] at e
    split at e
    · exact ⟨a, rfl, by assumption, Option.some.inj e⟩
    · cases e
theorem rc_spec {c : Nat} {r : Option Nat} {h : zH} {a : Nat} (e : rc c r h = some a) : r = some a ∧ zk h a = c + 1 := by
  cases r with
  | none => simp [rc] at e
  | some b =>
    simp only [rc] at e
    split at e
    · next q => cases e; exact ⟨rfl, q⟩
    · cases e
end
section
/-! The machine's heap holds a pure heap. -/
def zty (c k : Nat) : FieldType := match c with
  | 0 => tyX0 k
  | 1 => tyX1 k
  | 2 => tyX2 k
  | 3 => tyX3 k
  | 4 => tyX4 k
  | 5 => tyX5 k
  | 6 => tyX6 k
  | 7 => tyX7 k
  | 8 => tyX8 k
  | _ => tyX9 k
def zR (c : Nat) : String := match c with
  | 0 => RX0
  | 1 => RX1
  | 2 => RX2
  | 3 => RX3
  | 4 => RX4
  | 5 => RX5
  | 6 => RX6
  | 7 => RX7
  | 8 => RX8
  | _ => RX9
def zv (h : zH) (c k a : Nat) : Value := match zty c k with
  | .int => .int (zi h c k a)
  | .boolean => .int (zi h c k a)
  | _ => va_rf (zr h c k a)
def zet (κ : Nat) : FieldType := if κ = 100 then .int else if κ = 101 then .boolean else .object (zR (κ - 102))
def zar (h : zH) (κ a : Nat) : vp_A := if κ = 100 ∨ κ = 101 then (zl h a, .inl (za h a)) else (zl h a, .inr (.inr (.inr (.inr (zq h a)))))
def z_at (D : va_G) (U : State) (h : zH) (H : Heap) (a : Nat) : Prop :=
  if zk h a < 100 then ∃ r : vw_C, vwCl[zk h a - 1]? = some r ∧ t_OB a (D.1 (zk h a - 1)) r.2.2 (D.2 (zk h a - 1)) H (fun k => zv h (zk h a - 1) k a)
  else ∃ cA : ClassId, (ArrOfT U cA (zet (zk h a)) ∧ va_RA U cA (zet (zk h a))) ∧ H[a]? = some (vp_cell cA (zar h (zk h a) a))
theorem z_at_obj {D : va_G} {U : State} {h : zH} {H : Heap} {a c : Nat} (hk : zk h a = c + 1) (hc : c < 99) : z_at D U h H a ↔ ∃ r : vw_C, vwCl[c]? = some r ∧ t_OB a (D.1 c) r.2.2 (D.2 c) H (fun k => zv h c k a) := by
  unfold z_at
  rw [if_pos (by omega), hk]
  exact Iff.rfl
theorem z_at_arr {D : va_G} {U : State} {h : zH} {H : Heap} {a κ : Nat} (hk : zk h a = κ) (hc : 100 ≤ κ) : z_at D U h H a ↔ ∃ cA : ClassId, (ArrOfT U cA (zet κ) ∧ va_RA U cA (zet κ)) ∧ H[a]? = some (vp_cell cA (zar h κ a)) := by
  unfold z_at
  rw [if_neg (by omega), hk]
def zsame (h h' : zH) (b : Nat) : Prop := (∀ c k, zi h' c k b = zi h c k b) ∧ (∀ c k, zr h' c k b = zr h c k b) ∧ zl h' b = zl h b ∧ za h' b = za h b ∧ zq h' b = zq h b
theorem z_at.lt {D : va_G} {U : State} {h : zH} {H : Heap} {a : Nat} (q : z_at D U h H a) : a < H.size := by
  unfold z_at at q
  split at q
  · obtain ⟨r, -, cell, q1, -⟩ := q
    exact (Array.getElem?_eq_some_iff.mp q1).1
  · obtain ⟨cA, -, q1⟩ := q
    exact (Array.getElem?_eq_some_iff.mp q1).1
theorem z_at.same {D : va_G} {U : State} {h h' : zH} {H H1 : Heap} {b : Nat} (q : z_at D U h H b) (hk : zk h' b = zk h b) (hs : zsame h h' b) (hH : H1[b]? = H[b]?) : z_at D U h' H1 b := by
  obtain ⟨s1, s2, s3, s4, s5⟩ := hs
  unfold z_at at q ⊢
  rw [hk]
  split
  · next hlt =>
    rw [if_pos hlt] at q
    obtain ⟨r, h1, q⟩ := q
    exact ⟨r, h1, (q.kept hH).to (fun k _ => by unfold zv; rw [s1, s2])⟩
  · next hlt =>
    rw [if_neg hlt] at q
    obtain ⟨cA, h1, q⟩ := q
    refine ⟨cA, h1, ?_⟩
    rw [hH, q]
    unfold zar
    rw [s3, s4, s5]
theorem z_at.moved {D : va_G} {u U : State} {h : zH} {H : Heap} {a : Nat} (hvm : u.vm.Alike U.vm) (q : z_at D u h H a) : z_at D U h H a := by
  unfold z_at at q ⊢
  split
  · next hlt => rw [if_pos hlt] at q; exact q
  · next hlt =>
    rw [if_neg hlt] at q
    obtain ⟨cA, h1, q⟩ := q
    exact ⟨cA, ⟨arrOfT_moved hvm h1.1, va_RA.moved hvm h1.2⟩, q⟩
def z_P (D : va_G) (base : Nat) (U : State) (h : zH) (H : Heap) : Prop := base ≤ zs h ∧ H.size = zs h ∧ ∀ a : Nat, zk h a ≠ 0 → base ≤ a ∧ z_at D U h H a
def z_W (D : va_G) (base : Nat) (U : State) (h : zH) (H : Heap) : Prop := va_K D vwCl [] U ∧ z_P D base U h H
theorem z_W.moved {D : va_G} {base : Nat} {u U : State} {h : zH} {H : Heap} (hvm : u.vm.Alike U.vm) (q : z_W D base u h H) : z_W D base U h H :=
  ⟨va_K.moved hvm q.1, q.2.1, q.2.2.1, fun a ha => ⟨(q.2.2.2 a ha).1, (q.2.2.2 a ha).2.moved hvm⟩⟩
theorem z_W.obj {D : va_G} {base : Nat} {U : State} {h : zH} {H : Heap} {a c : Nat} (q : z_W D base U h H) (hk : zk h a = c + 1) (hc : c < 99) : ∃ r : vw_C, vwCl[c]? = some r ∧ t_OB a (D.1 c) r.2.2 (D.2 c) H (fun k => zv h c k a) :=
  (z_at_obj hk hc).mp (q.2.2.2 a (by omega)).2
theorem z_W.arr {D : va_G} {base : Nat} {U : State} {h : zH} {H : Heap} {a κ : Nat} (q : z_W D base U h H) (hk : zk h a = κ) (hc : 100 ≤ κ) : ∃ cA : ClassId, (ArrOfT U cA (zet κ) ∧ va_RA U cA (zet κ)) ∧ H[a]? = some (vp_cell cA (zar h κ a)) :=
  (z_at_arr hk hc).mp (q.2.2.2 a (by omega)).2
theorem z_W.upd {D : va_G} {base : Nat} {U : State} {h h' : zH} {H H1 : Heap} {a : Nat} (q : z_W D base U h H) (hk : zk h' = zk h) (hs : zs h' = zs h) (ho : ∀ b, b ≠ a → zsame h h' b) (z : H1.size = H.size) (oq : ∀ b, b ≠ a → H1[b]? = H[b]?) (ha : z_at D U h' H1 a) : z_W D base U h' H1 := by
  refine ⟨q.1, by rw [hs]; exact q.2.1, by rw [hs, z]; exact q.2.2.1, fun b hb => ?_⟩
  rw [hk] at hb
  refine ⟨(q.2.2.2 b hb).1, ?_⟩
  by_cases e : b = a
  · rw [e]; exact ha
  · exact (q.2.2.2 b hb).2.same (by rw [hk]) (ho b e) (oq b e)
theorem z_W.new {D : va_G} {base κ : Nat} {U : State} {h h' : zH} {H H1 : Heap} (q : z_W D base U h H) (hk : zk h' = fun a' => if a' = zs h then κ else zk h a') (hs : zs h' = zs h + 1) (ho : ∀ b, b ≠ zs h → zsame h h' b) (z : H1.size = H.size + 1) (oq : ∀ b, b < H.size → H1[b]? = H[b]?) (ha : z_at D U h' H1 (zs h)) : z_W D base U h' H1 := by
  refine ⟨q.1, by rw [hs]; have := q.2.1; omega, by rw [hs, z, q.2.2.1], fun b hb => ?_⟩
  by_cases e : b = zs h
  · rw [e]; exact ⟨q.2.1, ha⟩
  · have hkb : zk h' b = zk h b := by rw [hk]; simp [e]
    rw [hkb] at hb
    exact ⟨(q.2.2.2 b hb).1, (q.2.2.2 b hb).2.same hkb (ho b e) (oq b (q.2.2.2 b hb).2.lt)⟩
theorem zsame_sti {c k a b : Nat} {v : Int32} {h : zH} (e : b ≠ a) : zsame h (sti c k a v h) b := ⟨fun c' k' => by simp [sti, zi, e], fun _ _ => rfl, rfl, rfl, rfl⟩
theorem zsame_str {c k a b : Nat} {v : Option Nat} {h : zH} (e : b ≠ a) : zsame h (str c k a v h) b := ⟨fun _ _ => rfl, fun c' k' => by simp [str, zr, e], rfl, rfl, rfl⟩
theorem zsame_sta {a j b : Nat} {v : Int32} {h : zH} (e : b ≠ a) : zsame h (sta a j v h) b := ⟨fun _ _ => rfl, fun _ _ => rfl, rfl, by funext x; simp [sta, za, e], rfl⟩
theorem zsame_stq {a j b : Nat} {v : Option Nat} {h : zH} (e : b ≠ a) : zsame h (stq a j v h) b := ⟨fun _ _ => rfl, fun _ _ => rfl, rfl, rfl, by funext x; simp [stq, zq, e]⟩
theorem zsame_nwO {c b : Nat} {h : zH} (e : b ≠ zs h) : zsame h (nwO c h) b := ⟨fun c' k' => by simp [nwO, zi, e], fun c' k' => by simp [nwO, zr, e], rfl, rfl, rfl⟩
theorem zsame_nwA {κ n b : Nat} {h : zH} (e : b ≠ zs h) : zsame h (nwA κ n h) b := ⟨fun _ _ => rfl, fun _ _ => rfl, by simp [nwA, zl, e], by funext x; simp [nwA, za, e], by funext x; simp [nwA, zq, e]⟩
abbrev zA (base : Nat) : Nat → Prop := fun q => base ≤ q
section ZW
variable {p : Program} {l : Launch} {e : Env} {R : Room} {s : State} {m : MethodId} {args : Array Value} {below : List Frame} {meth : Method} {c : Code} {H : Heap} {locs : List Loc} {cells slots : Nat} {Q : State → Prop}
variable {cc : ByteArray} {pc : Nat} {ls : Array Slot} {rest : List Value} {D : va_G} {base : Nat} {h h' : zH} {H0 : Heap} {r : Option Nat}
theorem zw_gI (hx : p.tables.exec = Jvm.exec) (hb : c.code = cc) {own C : String} {T : u_T} {N ci index : Nat} {Ts : List Cond} (hts : ∀ w ∈ Ts, w.before args s = true) (hin : ∀ w ∈ u_ws C T N, w ∈ Ts) (hown : s.vm.findClass own = some m.cls) (hW : z_W D base s h H) (hc : vwCl[ci]? = some (C, T, N)) (hci : ci < 99) (k : Nat) (hk : k < N) (hlink : (Cond.fieldLink own index (T k).1 (T k).2.1 (T k).2.2.1).before args s = true) {v : Int32} (he : gI ci k r h = some v) (hv : ∀ (h : zH) (a : Nat), zv h ci k a = .int (zi h ci k a)) (hdg : decode cc pc = .ok (.getfield index, 3))
    (kk : W p l e R s m args below meth c H locs cells slots Q (F0 m (pc + 3) ls (.int v :: rest))) : W p l e R s m args below meth c H locs cells slots Q (F0 m pc ls (va_rf r :: rest)) := by
  obtain ⟨a, rfl, hka, rfl⟩ := gI_spec he
  obtain ⟨r', h1, cell, q1, q2, q3, q4⟩ := hW.obj hka hci
  have hr : r' = (C, T, N) := Option.some.inj (h1.symm.trans hc)
  subst hr
  obtain ⟨hS, hfc, kC, hkC, hkind⟩ := hW.1.1 ci _ hc
  obtain ⟨cf, kf, fi, f, hi, hsl⟩ := hS k hk
  refine W.getf hx hb hown hlink hi (u_facts hfc hkC (u_lays hts hin hk) hi).1 q1 (by rw [q3]; exact fun h => by cases h) (v := .int (zi h ci k a)) ?_ rfl rfl hdg kk
  rw [hsl, q4 k hk]
  show some (zv h ci k a) = _
  rw [hv]
theorem zw_gR (hx : p.tables.exec = Jvm.exec) (hb : c.code = cc) {own C : String} {T : u_T} {N ci index : Nat} {Ts : List Cond} (hts : ∀ w ∈ Ts, w.before args s = true) (hin : ∀ w ∈ u_ws C T N, w ∈ Ts) (hown : s.vm.findClass own = some m.cls) (hW : z_W D base s h H) (hc : vwCl[ci]? = some (C, T, N)) (hci : ci < 99) (k : Nat) (hk : k < N) (hlink : (Cond.fieldLink own index (T k).1 (T k).2.1 (T k).2.2.1).before args s = true) {v : Option Nat} (he : gR ci k r h = some v) (hv : ∀ (h : zH) (a : Nat), zv h ci k a = va_rf (zr h ci k a)) (hdg : decode cc pc = .ok (.getfield index, 3))
    (kk : W p l e R s m args below meth c H locs cells slots Q (F0 m (pc + 3) ls (va_rf v :: rest))) : W p l e R s m args below meth c H locs cells slots Q (F0 m pc ls (va_rf r :: rest)) := by
  obtain ⟨a, rfl, hka, rfl⟩ := gR_spec he
  obtain ⟨r', h1, cell, q1, q2, q3, q4⟩ := hW.obj hka hci
  have hr : r' = (C, T, N) := Option.some.inj (h1.symm.trans hc)
  subst hr
  obtain ⟨hS, hfc, kC, hkC, hkind⟩ := hW.1.1 ci _ hc
  obtain ⟨cf, kf, fi, f, hi, hsl⟩ := hS k hk
  refine W.getf hx hb hown hlink hi (u_facts hfc hkC (u_lays hts hin hk) hi).1 q1 (by rw [q3]; exact fun h => by cases h) (v := va_rf (zr h ci k a)) ?_ rfl rfl hdg kk
  rw [hsl, q4 k hk]
  show some (zv h ci k a) = _
  rw [hv]
/-- a store into a field: what comes of the object -/
theorem zw_put (hx : p.tables.exec = Jvm.exec) (hb : c.code = cc) {own C : String} {T : u_T} {N ci index : Nat} {Ts : List Cond} (hts : ∀ w ∈ Ts, w.before args s = true) (hin : ∀ w ∈ u_ws C T N, w ∈ Ts) (ty0 : Nat → FieldType) (hty : ∀ k, k < N → parseFieldDescriptor (T k).2.2.1 = some (ty0 k)) (hnm : ∀ a, a < N → ∀ b, b < N → a ≠ b → (T a).2.1 ≠ (T b).2.1) (hown : s.vm.findClass own = some m.cls) (hW : z_W D base s h H) (hS0 : va_S (zA base) H0 H locs) (hc : vwCl[ci]? = some (C, T, N)) (hci : ci < 99) (k : Nat) (hk : k < N) (hlink : (Cond.fieldLink own index (T k).1 (T k).2.1 (T k).2.2.1).before args s = true)
    (hfin : (T k).2.2.2 = false ∨ ((T k).2.2.2 = true ∧ meth.name = "<init>" ∧ (T k).1 = own)) {v : Value} (hn : narrow (ty0 k) v = v) (hfit : fits (ty0 k) v = true) {a : Nat} (hka : zk h a = ci + 1) (h1k : zk h' = zk h) (h1s : zs h' = zs h) (h1o : ∀ b, b ≠ a → zsame h h' b) (h1v : ∀ j, j < N → zv h' ci j a = if j = k then v else zv h ci j a) (hdg : decode cc pc = .ok (.putfield index, 3))
    (kk : ∀ (H1 : Heap) (locs1 : List Loc), z_W D base s h' H1 → va_S (zA base) H0 H1 locs1 → W p l e R s m args below meth c H1 locs1 cells slots Q (F0 m (pc + 3) ls rest)) : W p l e R s m args below meth c H locs cells slots Q (F0 m pc ls (v :: .ref a :: rest)) := by
  have hap := va_apart (own := own) (tys := []) (D := D) (cl := vwCl) hts hin ty0 hty hnm hW.1 hc
  obtain ⟨r', h1, cell, q1, q2, q3, q4⟩ := hW.obj hka hci
  have hr : r' = (C, T, N) := Option.some.inj (h1.symm.trans hc)
  subst hr
  obtain ⟨hS, hfc, kC, hkC, hkind⟩ := hW.1.1 ci _ hc
  obtain ⟨cf, kf, fi, f, hi, hsl⟩ := hS k hk
  have hlay := hts _ (hin _ (u_in_lay hk))
  have hst := (u_facts hfc hkC (u_lays hts hin hk) hi).1
  have hbase : base ≤ a := (hW.2.2.2 a (by omega)).1
  have fin : ∀ H' : Heap, H'[a]? = some (cell.setSlot f.slot v) → H'.size = H.size → (∀ q, q ≠ a → H'[q]? = H[q]?) → W p l e R s m args below meth c H' (locs ++ [⟨a, f.slot⟩]) cells slots Q (F0 m (pc + 3) ls rest) := by
    intro H' e1 e2 e3
    rw [hsl] at e1 ⊢
    refine kk H' _ (hW.upd h1k h1s h1o e2 e3 ?_) (hS0.put e2 e3 hbase)
    refine (z_at_obj (by rw [h1k]; exact hka) hci).mpr ⟨_, hc, t_OB.to (V := updV (fun k => zv h ci k a) k v) ⟨_, e1, q2, q3, t_set q4 hap hk v⟩ (fun j hj => ?_)⟩
    rw [h1v j hj]
    rfl
  rcases hfin with hfin | ⟨hfin, hin2, hdecl⟩
  · unfold u_lay at hlay
    rw [if_neg (by rw [hfin]; decide)] at hlay
    have h6 := u_store hfc hkC hkind hlay hi (hty k hk) hn hfit
    exact W.putK hx hb (f := f) ⟨hown, hlink, ⟨_, _, _, hi⟩, hst⟩ (by rw [q2]; exact h6) q1 q3 (by rw [hsl]; exact k2_hasslot (q4 k hk)) rfl rfl hdg fin
  · unfold u_lay at hlay
    rw [if_pos hfin] at hlay
    have hcf : m.cls = cf := by
      obtain ⟨_, _, c', _, _, _, -, -, hf', -, -, -, hown2, -⟩ := Cond.laysFinal_spec hlay
      have e1 : c' = cf := by have := hi.symm.trans hf'; simp at this; exact this.1.symm
      rw [hdecl] at hown2
      rw [← e1]; exact Option.some.inj (hown.symm.trans hown2)
    have h6 := u_fits hfc hkC hkind (Or.inr hlay) hi (hty k hk) hn hfit
    exact W.putFinK hx hb hown hlink hi hst hcf hin2 (by rw [q2]; exact h6) q1 q3 (by rw [hsl]; exact k2_hasslot (q4 k hk)) rfl rfl hdg fin
end ZW
section ZX
variable {p : Program} {l : Launch} {e : Env} {R : Room} {s : State} {m : MethodId} {args : Array Value} {below : List Frame} {meth : Method} {c : Code} {H : Heap} {locs : List Loc} {cells slots : Nat} {Q : State → Prop}
variable {cc : ByteArray} {pc : Nat} {ls : Array Slot} {rest : List Value} {D : va_G} {base : Nat} {h h' : zH} {H0 : Heap} {r : Option Nat}
theorem zw_pI (hx : p.tables.exec = Jvm.exec) (hb : c.code = cc) {own C : String} {T : u_T} {N ci index : Nat} {Ts : List Cond} (hts : ∀ w ∈ Ts, w.before args s = true) (hin : ∀ w ∈ u_ws C T N, w ∈ Ts) (ty0 : Nat → FieldType) (hty : ∀ k, k < N → parseFieldDescriptor (T k).2.2.1 = some (ty0 k)) (hnm : ∀ a, a < N → ∀ b, b < N → a ≠ b → (T a).2.1 ≠ (T b).2.1) (hown : s.vm.findClass own = some m.cls) (hW : z_W D base s h H) (hS0 : va_S (zA base) H0 H locs) (hc : vwCl[ci]? = some (C, T, N)) (hci : ci < 99) (k : Nat) (hk : k < N) (hlink : (Cond.fieldLink own index (T k).1 (T k).2.1 (T k).2.2.1).before args s = true)
    (hfin : (T k).2.2.2 = false ∨ ((T k).2.2.2 = true ∧ meth.name = "<init>" ∧ (T k).1 = own)) {v : Int32} (hv : ∀ (h : zH) (a : Nat), zv h ci k a = .int (zi h ci k a)) (hn : narrow (ty0 k) (.int v) = .int v) (hfit : fits (ty0 k) (.int v) = true) (he : pI ci k r v h = some h') (hdg : decode cc pc = .ok (.putfield index, 3))
    (kk : ∀ (H1 : Heap) (locs1 : List Loc), z_W D base s h' H1 → va_S (zA base) H0 H1 locs1 → W p l e R s m args below meth c H1 locs1 cells slots Q (F0 m (pc + 3) ls rest)) : W p l e R s m args below meth c H locs cells slots Q (F0 m pc ls (.int v :: va_rf r :: rest)) := by
  obtain ⟨a, rfl, hka, rfl⟩ := pI_spec he
  refine zw_put (h' := sti ci k a v h) hx hb hts hin ty0 hty hnm hown hW hS0 hc hci k hk hlink hfin hn hfit hka rfl rfl (fun b hb => zsame_sti hb) (fun j hj => ?_) hdg kk
  by_cases q : j = k
  · subst q
    rw [hv, if_pos rfl]
    simp [sti, zi]
  · rw [if_neg q]
    simp [zv, sti, zi, zr, q]
theorem zw_pR (hx : p.tables.exec = Jvm.exec) (hb : c.code = cc) {own C : String} {T : u_T} {N ci index : Nat} {Ts : List Cond} (hts : ∀ w ∈ Ts, w.before args s = true) (hin : ∀ w ∈ u_ws C T N, w ∈ Ts) (ty0 : Nat → FieldType) (hty : ∀ k, k < N → parseFieldDescriptor (T k).2.2.1 = some (ty0 k)) (hnm : ∀ a, a < N → ∀ b, b < N → a ≠ b → (T a).2.1 ≠ (T b).2.1) (hown : s.vm.findClass own = some m.cls) (hW : z_W D base s h H) (hS0 : va_S (zA base) H0 H locs) (hc : vwCl[ci]? = some (C, T, N)) (hci : ci < 99) (k : Nat) (hk : k < N) (hlink : (Cond.fieldLink own index (T k).1 (T k).2.1 (T k).2.2.1).before args s = true)
    (hfin : (T k).2.2.2 = false ∨ ((T k).2.2.2 = true ∧ meth.name = "<init>" ∧ (T k).1 = own)) {v : Option Nat} (hv : ∀ (h : zH) (a : Nat), zv h ci k a = va_rf (zr h ci k a)) (hn : ∀ v : Option Nat, narrow (ty0 k) (va_rf v) = va_rf v) (hfit : ∀ v : Option Nat, fits (ty0 k) (va_rf v) = true) (he : pR ci k r v h = some h') (hdg : decode cc pc = .ok (.putfield index, 3))
    (kk : ∀ (H1 : Heap) (locs1 : List Loc), z_W D base s h' H1 → va_S (zA base) H0 H1 locs1 → W p l e R s m args below meth c H1 locs1 cells slots Q (F0 m (pc + 3) ls rest)) : W p l e R s m args below meth c H locs cells slots Q (F0 m pc ls (va_rf v :: va_rf r :: rest)) := by
  obtain ⟨a, rfl, hka, rfl⟩ := pR_spec he
  refine zw_put (h' := str ci k a v h) hx hb hts hin ty0 hty hnm hown hW hS0 hc hci k hk hlink hfin (hn v) (hfit v) hka rfl rfl (fun b hb => zsame_str hb) (fun j hj => ?_) hdg kk
  by_cases q : j = k
  · subst q
    rw [hv, if_pos rfl]
    simp [str, zr]
  · rw [if_neg q]
    simp [zv, str, zi, zr, q]
theorem zw_aI (hx : p.tables.exec = Jvm.exec) (hb : c.code = cc) (hW : z_W D base s h H) {i v : Int32} (he : aI 100 r i h = some v) (hdg : decode cc pc = .ok (.iaload, 1))
    (kk : W p l e R s m args below meth c H locs cells slots Q (F0 m (pc + 1) ls (.int v :: rest))) : W p l e R s m args below meth c H locs cells slots Q (F0 m pc ls (.int i :: va_rf r :: rest)) := by
  obtain ⟨a, rfl, hka, hin, rfl⟩ := aI_spec he
  obtain ⟨cA, ⟨h1, h2⟩, h3⟩ := hW.arr hka (by decide)
  have h3 : H[a]? = some (arrV cA (zl h a) (fun j => .int (za h a j))) := h3
  have hlt : i.toNatClampNeg < zl h a := Nat.not_le.mp fun q => hin (Or.inr q)
  exact W.iald (v := .int (za h a i.toNatClampNeg)) hx hb h3 (h1 (zl h a) (fun j => .int (za h a j))) (fun q => by cases q) (by show ¬ (i < 0 ∨ (arrV _ _ _).slots.size ≤ _); rw [arrV_size]; exact hin) (by show (arrV _ _ _).slots[_]? = _; rw [arrV_read _ _ hlt]) rfl rfl hdg kk
theorem zw_aZ (hx : p.tables.exec = Jvm.exec) (hb : c.code = cc) (hW : z_W D base s h H) {i v : Int32} (he : aI 101 r i h = some v) (hdg : decode cc pc = .ok (.baload, 1))
    (kk : W p l e R s m args below meth c H locs cells slots Q (F0 m (pc + 1) ls (.int v :: rest))) : W p l e R s m args below meth c H locs cells slots Q (F0 m pc ls (.int i :: va_rf r :: rest)) := by
  obtain ⟨a, rfl, hka, hin, rfl⟩ := aI_spec he
  obtain ⟨cA, ⟨h1, h2⟩, h3⟩ := hW.arr hka (by decide)
  have h3 : H[a]? = some (arrV cA (zl h a) (fun j => .int (za h a j))) := h3
  have hlt : i.toNatClampNeg < zl h a := Nat.not_le.mp fun q => hin (Or.inr q)
  exact W.zald (v := .int (za h a i.toNatClampNeg)) hx hb h3 (h1 (zl h a) (fun j => .int (za h a j))) (fun q => by cases q) (by show ¬ (i < 0 ∨ (arrV _ _ _).slots.size ≤ _); rw [arrV_size]; exact hin) (by show (arrV _ _ _).slots[_]? = _; rw [arrV_read _ _ hlt]) rfl rfl hdg kk
theorem zw_aQ (hx : p.tables.exec = Jvm.exec) (hb : c.code = cc) (hW : z_W D base s h H) (κ : Nat) (hκ : 102 ≤ κ) {i : Int32} {v : Option Nat} (he : aQ κ r i h = some v) (hdg : decode cc pc = .ok (.aaload, 1))
    (kk : W p l e R s m args below meth c H locs cells slots Q (F0 m (pc + 1) ls (va_rf v :: rest))) : W p l e R s m args below meth c H locs cells slots Q (F0 m pc ls (.int i :: va_rf r :: rest)) := by
  obtain ⟨a, rfl, hka, hin, rfl⟩ := aQ_spec he
  obtain ⟨cA, ⟨h1, h2⟩, h3⟩ := hW.arr hka (by omega)
  have hlt : i.toNatClampNeg < zl h a := Nat.not_le.mp fun q => hin (Or.inr q)
  have e1 : zar h κ a = (zl h a, .inr (.inr (.inr (.inr (zq h a))))) := by unfold zar; rw [if_neg (by omega)]
  have e2 : zet κ = .object (zR (κ - 102)) := by unfold zet; rw [if_neg (by omega), if_neg (by omega)]
  rw [e1] at h3
  rw [e2] at h1
  exact W.aald (v := va_rf (zq h a i.toNatClampNeg)) (ty := .object (zR (κ - 102))) hx hb h3 (h1 (zl h a) (fun j => va_rf (zq h a j))) rfl (fun q => by cases q) (by show ¬ (i < 0 ∨ (arrV _ _ _).slots.size ≤ _); rw [arrV_size]; exact hin) (by show (arrV _ _ _).slots[_]? = _; rw [arrV_read _ _ hlt]) rfl rfl hdg kk
theorem zw_len (hx : p.tables.exec = Jvm.exec) (hb : c.code = cc) (hW : z_W D base s h H) {v : Int32} (he : lA 100 r h = some v) (hdg : decode cc pc = .ok (.arraylength, 1))
    (kk : W p l e R s m args below meth c H locs cells slots Q (F0 m (pc + 1) ls (.int v :: rest))) : W p l e R s m args below meth c H locs cells slots Q (F0 m pc ls (va_rf r :: rest)) := by
  obtain ⟨a, rfl, hka, rfl⟩ := lA_spec he
  obtain ⟨cA, ⟨h1, h2⟩, h3⟩ := hW.arr hka (by decide)
  have h3 : H[a]? = some (arrV cA (zl h a) (fun j => .int (za h a j))) := h3
  exact W.alen (n := Int32.ofNat (zl h a)) hx hb h3 (h1 (zl h a) (fun j => .int (za h a j))) (by show (arrV _ _ _).slots.size.toInt32 = _; rw [arrV_size] <;> rfl) rfl rfl hdg kk
theorem zw_sI (hx : p.tables.exec = Jvm.exec) (hb : c.code = cc) (hW : z_W D base s h H) (hS0 : va_S (zA base) H0 H locs) {i v : Int32} (he : sI r i v h = some h') (hdg : decode cc pc = .ok (.iastore, 1))
    (kk : ∀ (H1 : Heap) (locs1 : List Loc), z_W D base s h' H1 → va_S (zA base) H0 H1 locs1 → W p l e R s m args below meth c H1 locs1 cells slots Q (F0 m (pc + 1) ls rest)) : W p l e R s m args below meth c H locs cells slots Q (F0 m pc ls (.int v :: .int i :: va_rf r :: rest)) := by
  obtain ⟨a, rfl, hka, hin, rfl⟩ := sI_spec he
  obtain ⟨cA, ⟨h1, h2⟩, h3⟩ := hW.arr hka (by decide)
  have h3 : H[a]? = some (arrV cA (zl h a) (fun j => .int (za h a j))) := h3
  have hbase : base ≤ a := (hW.2.2.2 a (by omega)).1
  refine W.iast hx hb h3 (h1 (zl h a) (fun j => .int (za h a j))) (fun q => by cases q) (by show ¬ (i < 0 ∨ (arrV _ _ _).slots.size ≤ _); rw [arrV_size]; exact hin) rfl rfl hdg fun H1 e1 z oq => ?_
  refine kk H1 _ (hW.upd rfl rfl (fun b hb => zsame_sta hb) z oq ((z_at_arr (h := sta a i.toNatClampNeg v h) (κ := 100) hka (by decide)).mpr ⟨cA, ⟨h1, h2⟩, ?_⟩)) (hS0.put z oq hbase)
  rw [e1]
  show some (Cell.setSlot (arrV cA (zl h a) (fun j => .int (za h a j))) i.toNatClampNeg (.int v)) = some (arrV cA (zl h a) (fun j => .int (za (sta a i.toNatClampNeg v h) a j)))
  rw [arrV_store]
  congr 2
  funext q
  by_cases hq : q = i.toNatClampNeg
  · subst hq
    simp [updV, sta, za]
  · simp [updV, sta, za, hq]
theorem zw_sZ (hx : p.tables.exec = Jvm.exec) (hb : c.code = cc) (hW : z_W D base s h H) (hS0 : va_S (zA base) H0 H locs) {i v : Int32} (he : sZ r i v h = some h') (hdg : decode cc pc = .ok (.bastore, 1))
    (kk : ∀ (H1 : Heap) (locs1 : List Loc), z_W D base s h' H1 → va_S (zA base) H0 H1 locs1 → W p l e R s m args below meth c H1 locs1 cells slots Q (F0 m (pc + 1) ls rest)) : W p l e R s m args below meth c H locs cells slots Q (F0 m pc ls (.int v :: .int i :: va_rf r :: rest)) := by
  obtain ⟨a, rfl, hka, hin, hv, rfl⟩ := sZ_spec he
  obtain ⟨cA, ⟨h1, h2⟩, h3⟩ := hW.arr hka (by decide)
  have h3 : H[a]? = some (arrV cA (zl h a) (fun j => .int (za h a j))) := h3
  have hbase : base ≤ a := (hW.2.2.2 a (by omega)).1
  have hn : narrow .boolean (.int v) = .int v := by rcases hv with rfl | rfl <;> rfl
  refine W.zast hx hb h3 (h1 (zl h a) (fun j => .int (za h a j))) (fun q => by cases q) (by show ¬ (i < 0 ∨ (arrV _ _ _).slots.size ≤ _); rw [arrV_size]; exact hin) rfl rfl hdg fun H1 e1 z oq => ?_
  refine kk H1 _ (hW.upd rfl rfl (fun b hb => zsame_sta hb) z oq ((z_at_arr (h := sta a i.toNatClampNeg v h) (κ := 101) hka (by decide)).mpr ⟨cA, ⟨h1, h2⟩, ?_⟩)) (hS0.put z oq hbase)
  rw [e1, hn]
  show some (Cell.setSlot (arrV cA (zl h a) (fun j => .int (za h a j))) i.toNatClampNeg (.int v)) = some (arrV cA (zl h a) (fun j => .int (za (sta a i.toNatClampNeg v h) a j)))
  rw [arrV_store]
  congr 2
  funext q
  by_cases hq : q = i.toNatClampNeg
  · subst hq
    simp [updV, sta, za]
  · simp [updV, sta, za, hq]
theorem zw_sQ (hx : p.tables.exec = Jvm.exec) (hb : c.code = cc) (hW : z_W D base s h H) (hS0 : va_S (zA base) H0 H locs) (ci : Nat) {T : u_T} {N : Nat} (hc : vwCl[ci]? = some (zR ci, T, N)) (hci : ci < 99) {i : Int32} {v : Option Nat} (he : sQ ci r i v h = some h') (hdg : decode cc pc = .ok (.aastore, 1))
    (kk : ∀ (H1 : Heap) (locs1 : List Loc), z_W D base s h' H1 → va_S (zA base) H0 H1 locs1 → W p l e R s m args below meth c H1 locs1 cells slots Q (F0 m (pc + 1) ls rest)) : W p l e R s m args below meth c H locs cells slots Q (F0 m pc ls (va_rf v :: .int i :: va_rf r :: rest)) := by
  obtain ⟨a, b, rfl, rfl, hka, hin, hkb, rfl⟩ := sQ_spec he
  obtain ⟨cA, ⟨h1, h2⟩, h3⟩ := hW.arr hka (by omega)
  have hbase : base ≤ a := (hW.2.2.2 a (by omega)).1
  have e1 : ∀ g : zH, zar g (102 + ci) a = (zl g a, .inr (.inr (.inr (.inr (zq g a))))) := by intro g; unfold zar; rw [if_neg (by omega)]
  have e2 : zet (102 + ci) = .object (zR ci) := by unfold zet; rw [if_neg (by omega), if_neg (by omega), Nat.add_sub_cancel_left]
  have hlt : i.toNatClampNeg < zl h a := Nat.not_le.mp fun q => hin (Or.inr q)
  have h0 : ¬ i < 0 := fun q => hin (Or.inl q)
  obtain ⟨r', hr', cellV, g1, g2, g3, -⟩ := hW.obj hkb hci
  have hcls := (hW.1.1 ci _ hc).2
  rw [e2] at h1 h2
  obtain ⟨kA, comp, k1, k2, k3, k4⟩ := id h2
  have hcomp : comp = D.1 ci := Option.some.inj (k3.symm.trans hcls.1)
  subst hcomp
  obtain ⟨kC, hkC, -⟩ := hcls.2
  rw [e1] at h3
  refine W.aast hx hb h3 (fun q h => by cases h) (fun h => by cases h) k1 k2 rfl hkC ⟨h0, by show _ < (arrV _ _ _).slots.size; rw [arrV_size]; exact hlt⟩ g1 (fun q h => by rw [g3] at h; cases h) (by rw [g2]; exact hkC) (by rw [g2]; exact va_assign hcls) rfl rfl hdg fun H1 q1 z oq => ?_
  refine kk H1 _ (hW.upd rfl rfl (fun b hb => zsame_stq hb) z oq ((z_at_arr (h := stq a i.toNatClampNeg (some b) h) (κ := 102 + ci) hka (by omega)).mpr ⟨cA, ⟨by rw [e2]; exact h1, by rw [e2]; exact h2⟩, ?_⟩)) (hS0.put z oq hbase)
  rw [q1, e1]
  show some (Cell.setSlot (arrV cA (zl h a) (fun j => va_rf (zq h a j))) i.toNatClampNeg (.ref b)) = some (arrV cA (zl h a) (fun j => va_rf (zq (stq a i.toNatClampNeg (some b) h) a j)))
  rw [arrV_store]
  congr 2
  funext q
  by_cases hq : q = i.toNatClampNeg
  · subst hq
    simp [updV, stq, zq, va_rf]
  · simp [updV, stq, zq, hq]
theorem zw_nO (hx : p.tables.exec = Jvm.exec) (hb : c.code = cc) {own C : String} {T : u_T} {N ci index : Nat} {Ts : List Cond} (hts : ∀ w ∈ Ts, w.before args s = true) (hin : ∀ w ∈ u_ws C T N, w ∈ Ts) (ty0 : Nat → FieldType) (hty : ∀ k, k < N → parseFieldDescriptor (T k).2.2.1 = some (ty0 k)) (hown : s.vm.findClass own = some m.cls) (hcl : (Cond.classLink own index C).before args s = true) (hinst : (Cond.instantiable C N).before args s = true) (hini : (Cond.initialized C).before args s = true)
    (hW : z_W D base s h H) (hS : va_S (zA base) H0 H locs) (hc : vwCl[ci]? = some (C, T, N)) (hci : ci < 99) (hfs : ∀ (h : zH) (a j : Nat), j < N → (∀ c k, zi h c k a = 0) → (∀ c k, zr h c k a = none) → defaultValue (ty0 j) = zv h ci j a) (hcells : cells + 1 ≤ R.cells) (hslots : slots + N ≤ R.slots) (hdg : decode cc pc = .ok (.new index, 3))
    (kk : ∀ H1 : Heap, z_W D base s (nwO ci h) H1 → va_S (zA base) H0 H1 locs → W p l e R s m args below meth c H1 locs (cells + 1) (slots + N) Q (F0 m (pc + 3) ls (va_rf (some (zs h)) :: rest))) : W p l e R s m args below meth c H locs cells slots Q (F0 m pc ls rest) := by
  have hKn := hW.1.1 ci _ hc
  refine W.newcK hx hb hown hcl hinst hini rfl hdg hcells hslots hKn.2.1 hW.2.2.1 fun H1 kC hkC e1 z1 o1 => ?_
  have hz := hW.2.2.1
  refine kk H1 (hW.new (κ := ci + 1) rfl rfl (fun b hb => zsame_nwO hb) (by omega) (fun b hb => o1 b (by omega)) ((z_at_obj (c := ci) (by simp [nwO, zk]) hci).mpr ⟨_, hc, (u_born ty0 hts hin hKn hkC e1 hty).to (fun j hj => hfs _ _ j hj (fun c k => by simp [nwO, zi]) (fun c k => by simp [nwO, zr]))⟩)) ⟨Nat.le_trans hS.1 (by omega), fun x g1 g2 => (o1 x (by have := hS.1; omega)).trans (hS.2.1 x g1 g2), hS.2.2⟩
theorem zw_nI (hx : p.tables.exec = Jvm.exec) (hb : c.code = cc) (harr : (Cond.arrayClass .int).before args s = true) (hW : z_W D base s h H) (hS : va_S (zA base) H0 H locs) {n : Int32} (N : Nat) (hn : ¬ n < 0) (hN : n.toNatClampNeg = N) (hbytes : N * 4 ≤ 536870912) (hcells : cells + 1 ≤ R.cells) (hslots : slots + N ≤ R.slots) (hdg : decode cc pc = .ok (.newarray .int, 2))
    (kk : ∀ H1 : Heap, z_W D base s (nwA 100 N h) H1 → va_S (zA base) H0 H1 locs → W p l e R s m args below meth c H1 locs (cells + 1) (slots + N) Q (F0 m (pc + 2) ls (va_rf (some (zs h)) :: rest))) : W p l e R s m args below meth c H locs cells slots Q (F0 m pc ls (.int n :: rest)) := by
  refine va_newaK (atype := .int) hx hb harr rfl hdg rfl hn hN hbytes hcells hslots hW.2.2.1 fun H1 cA e1 z1 o1 hAr hNm => ?_
  have hz := hW.2.2.1
  refine kk H1 (hW.new (κ := 100) rfl rfl (fun b hb => zsame_nwA hb) (by omega) (fun b hb => o1 b (by omega)) ((z_at_arr (κ := 100) (by simp [nwA, zk]) (by decide)).mpr ⟨cA, ⟨hAr, hNm⟩, ?_⟩)) ⟨Nat.le_trans hS.1 (by omega), fun x g1 g2 => (o1 x (by have := hS.1; omega)).trans (hS.2.1 x g1 g2), hS.2.2⟩
  rw [e1]
  have q1 : zl (nwA 100 N h) (zs h) = N := by simp [nwA, zl]
  have q2 : za (nwA 100 N h) (zs h) = fun _ => 0 := by funext j; simp [nwA, za]
  show _ = some (vp_cell cA (zl (nwA 100 N h) (zs h), .inl (za (nwA 100 N h) (zs h))))
  rw [q1, q2]
  rfl
theorem zw_nZ (hx : p.tables.exec = Jvm.exec) (hb : c.code = cc) (harr : (Cond.arrayClass .boolean).before args s = true) (hW : z_W D base s h H) (hS : va_S (zA base) H0 H locs) {n : Int32} (N : Nat) (hn : ¬ n < 0) (hN : n.toNatClampNeg = N) (hbytes : N * 1 ≤ 536870912) (hcells : cells + 1 ≤ R.cells) (hslots : slots + N ≤ R.slots) (hdg : decode cc pc = .ok (.newarray .boolean, 2))
    (kk : ∀ H1 : Heap, z_W D base s (nwA 101 N h) H1 → va_S (zA base) H0 H1 locs → W p l e R s m args below meth c H1 locs (cells + 1) (slots + N) Q (F0 m (pc + 2) ls (va_rf (some (zs h)) :: rest))) : W p l e R s m args below meth c H locs cells slots Q (F0 m pc ls (.int n :: rest)) := by
  refine va_newaK (atype := .boolean) hx hb harr rfl hdg rfl hn hN hbytes hcells hslots hW.2.2.1 fun H1 cA e1 z1 o1 hAr hNm => ?_
  have hz := hW.2.2.1
  refine kk H1 (hW.new (κ := 101) rfl rfl (fun b hb => zsame_nwA hb) (by omega) (fun b hb => o1 b (by omega)) ((z_at_arr (κ := 101) (by simp [nwA, zk]) (by decide)).mpr ⟨cA, ⟨hAr, hNm⟩, ?_⟩)) ⟨Nat.le_trans hS.1 (by omega), fun x g1 g2 => (o1 x (by have := hS.1; omega)).trans (hS.2.1 x g1 g2), hS.2.2⟩
  rw [e1]
  have q1 : zl (nwA 101 N h) (zs h) = N := by simp [nwA, zl]
  have q2 : za (nwA 101 N h) (zs h) = fun _ => 0 := by funext j; simp [nwA, za]
  show _ = some (vp_cell cA (zl (nwA 101 N h) (zs h), .inl (za (nwA 101 N h) (zs h))))
  rw [q1, q2]
  rfl
theorem zw_nQ (hx : p.tables.exec = Jvm.exec) (hb : c.code = cc) {own : String} {index : Nat} (ci : Nat) (hown : s.vm.findClass own = some m.cls) (hclink : (Cond.classLink own index (zR ci)).before args s = true) (hover : (Cond.arrayOver (.object (zR ci))).before args s = true) (hW : z_W D base s h H) (hS : va_S (zA base) H0 H locs) {n : Int32} (N : Nat) (hn : ¬ n < 0) (hN : n.toNatClampNeg = N) (hbytes : N * 4 ≤ 536870912) (hcells : cells + 1 ≤ R.cells) (hslots : slots + N ≤ R.slots) (hdg : decode cc pc = .ok (.anewarray index, 3))
    (kk : ∀ H1 : Heap, z_W D base s (nwA (102 + ci) N h) H1 → va_S (zA base) H0 H1 locs → W p l e R s m args below meth c H1 locs (cells + 1) (slots + N) Q (F0 m (pc + 3) ls (va_rf (some (zs h)) :: rest))) : W p l e R s m args below meth c H locs cells slots Q (F0 m pc ls (.int n :: rest)) := by
  subst hN
  refine W.anew hx hb hown hclink hover rfl hdg rfl hn hbytes hcells hslots fun cA kA comp f1 f2 f3 f4 => ?_
  generalize hH1 : H.push ({ cls := cA, slots := Array.replicate n.toNatClampNeg .null, vm := .none } : Cell) = H1
  have z1 : H1.size = H.size + 1 := by rw [← hH1, Array.size_push]
  have e1 : H1[H.size]? = some (arrV cA n.toNatClampNeg (fun _ => .null)) := by rw [← hH1, Array.getElem?_push_size, ← arrV_new]
  have o1 : ∀ q : Nat, q < H.size → H1[q]? = H[q]? := fun q hq => by rw [← hH1, Array.getElem?_push, if_neg (Nat.ne_of_lt hq)]
  have hAr : ArrOfT s cA (.object (zR ci)) := fun N z => ⟨(fun k h => by cases h), kA, f2, comp, f3⟩
  have e2 : zet (102 + ci) = .object (zR ci) := by unfold zet; rw [if_neg (by omega), if_neg (by omega), Nat.add_sub_cancel_left]
  have hz := hW.2.2.1
  rw [hz] at e1 ⊢
  refine kk H1 (hW.new (κ := 102 + ci) rfl rfl (fun b hb => zsame_nwA hb) (by omega) (fun b hb => o1 b (by omega)) ((z_at_arr (κ := 102 + ci) (by simp [nwA, zk]) (by omega)).mpr ⟨cA, ⟨by rw [e2]; exact hAr, by rw [e2]; exact ⟨kA, comp, f2, f3, f4, f1⟩⟩, ?_⟩)) ⟨Nat.le_trans hS.1 (by omega), fun x g1 g2 => (o1 x (by have := hS.1; omega)).trans (hS.2.1 x g1 g2), hS.2.2⟩
  rw [e1]
  have q1 : zl (nwA (102 + ci) n.toNatClampNeg h) (zs h) = n.toNatClampNeg := by simp [nwA, zl]
  have q2 : zq (nwA (102 + ci) n.toNatClampNeg h) (zs h) = fun _ => none := by funext j; simp [nwA, zq]
  have q3 : zar (nwA (102 + ci) n.toNatClampNeg h) (102 + ci) (zs h) = (zl (nwA (102 + ci) n.toNatClampNeg h) (zs h), .inr (.inr (.inr (.inr (zq (nwA (102 + ci) n.toNatClampNeg h) (zs h)))))) := by unfold zar; rw [if_neg (by omega)]
  rw [q3, q1, q2]
  rfl
end ZX
end
section
/-! What isn't among the good words: links of nest mates, classes of arrays of references. -/
def zN (U : State) : Prop := (∀ (a : String) (i : Nat) (x : MethodName) (g : String), Cond.methodLinkNest a i x g ∈ tables_1 → va_Nw (.methodLinkNest a i x g) U) ∧ ∀ C : String, Cond.arrayOver (.object C) ∈ tables_1 → va_AO C U
theorem zN.warm {s U : State} (hW : s.WarmedH U.vm) (q : zN s) : zN U := ⟨fun a i x g h => va_Nw.warmM hW (q.1 a i x g h), fun C h => va_AO.moved hW.alike (q.2 C h)⟩
theorem zN.same {s U : State} (hW : s.vm = U.vm) (q : zN s) : zN U := ⟨fun a i x g h => va_Nw.same rfl hW (q.1 a i x g h), fun C h => va_AO.moved (by rw [← hW]; exact Vm.Alike.refl _) (q.2 C h)⟩
def zQ (D : va_G) (base : Nat) (v : Option Value) (h' : zH) : Array Value → State → Outcome → State → Prop := fun _ st oc t => oc = .returned v ∧ z_W D base t h' t.heap ∧ va_F (zA base) st t
def zPc (D : va_G) (base : Nat) (h : zH) (av : List Value) : Array Value → State → Prop := va_Pc av (fun U => z_W D base U h U.heap ∧ zN U)
abbrev zwords (y : MethodName) (cc : ByteArray) (n : Nat) (ret : Option FieldType) : List Cond := Cond.code y cc n ret :: zT
/-- method y, called with av on the pure heap h, answers v and leaves h' -/
def zMet (l : Launch) (D : va_G) (base : Nat) (y : MethodName) (cc : ByteArray) (n : Nat) (ret : Option FieldType) (rm : Room) (h : zH) (av : List Value) (v : Option Value) (h' : zH) : Prop :=
  Met l y (zwords y cc n ret) rm (zPc D base h av) (zQ D base v h') rm.cells rm.slots (zA base)
theorem zPc_blind {D : va_G} {base : Nat} {h : zH} {av : List Value} : FrameBlind (zPc D base h av) := fun a U g mk q => ⟨q.1, z_W.moved (u := U) (U := U.calling g mk a) (Vm.Alike.refl U.vm) q.2.1, zN.same (s := U) (U := U.calling g mk a) rfl q.2.2⟩
theorem zT_goodIn {y y2 : MethodName} {cc cc2 : ByteArray} {n n2 : Nat} {ret ret2 : Option FieldType} (hc : Cond.code y cc n ret ∈ zT) : GoodIn (zwords y2 cc2 n2 ret2) (zwords y cc n ret) := by
  intro w hw
  have h1 : w ∈ zT := by
    rcases List.mem_cons.mp hw with rfl | h
    · exact hc
    · exact h
  exact ⟨List.mem_cons_of_mem _ h1, good_of_word (List.mem_filter.mp h1).2⟩
section ZC
variable {p : Program} {l : Launch} {e : Env} {R : Room} {s : State} {m : MethodId} {args : Array Value} {below : List Frame} {meth : Method} {c : Code} {H : Heap} {locs : List Loc} {cells slots : Nat} {Q : State → Prop}
variable {cc : ByteArray} {pc : Nat} {ls : Array Slot} {rest st0 : List Value} {D : va_G} {base : Nat} {h h' : zH} {H0 : Heap} {r : Option Nat}
/-- what a method's proof has in hand -/
def zF (p : Program) (s : State) (m : MethodId) (args : Array Value) (meth : Method) (c : Code) (cc : ByteArray) (nL : Nat) (own : String) (ret : Option FieldType) : Prop :=
  p.tables.exec = Jvm.exec ∧ c.code = cc ∧ c.maxLocals = nL ∧ s.vm.findClass own = some m.cls ∧ (∀ w ∈ zT, w.before args s = true) ∧ meth.sig.returnType = ret ∧ meth.locks = false ∧ zN s
theorem zw_call {mc ms : Nat} {v : Option Value} {a : Array Value} (hr : va_Run p l e R s m args below meth c H locs cells slots mc ms (F0 m pc ls st0) rest (zQ D base v h' a) (zA base)) (hS : va_S (zA base) H0 H locs)
    (kk : ∀ (H1 : Heap) (locs1 : List Loc), z_W D base s h' H1 → va_S (zA base) H0 H1 locs1 → W p l e R s m args below meth c H1 locs1 (cells + mc) (slots + ms) Q (F0 m (pc + 3) ls (v.toList ++ rest))) : W p l e R s m args below meth c H locs cells slots Q (F0 m pc ls st0) := by
  intro T hT X
  obtain ⟨v', st₀, t, T', L, h0, X', hL, e1, e2, ⟨hv, hB, hz, hk⟩, st⟩ := hr T hT X
  cases hv
  rw [h0] at hz hk
  obtain ⟨t2, a1, b1⟩ := kk T'.heap (locs ++ L) (z_W.moved (by rw [← e2]; exact X'.warmed.alike.symm) (by rw [e1]; exact hB))
    ⟨Nat.le_trans hS.1 (by rw [e1]; exact hz), fun q h1 h2 => by rw [e1, hk q (Nat.lt_of_lt_of_le h1 hS.1) h2]; exact hS.2.1 q h1 h2, fun q hq => by
      rcases List.mem_append.mp hq with h | h
      · exact hS.2.2 q h
      · exact hL q h⟩ T' rfl X'
  exact ⟨t2, st t2 a1, b1⟩
theorem zw_callV {nL n index maxL : Nat} {own C : String} {ret0 ret : Option FieldType} {y : MethodName} {bytes : ByteArray} {rm : Room} {As : List Value} {v : Option Value} (F : zF p s m args meth c cc nL own ret0) (hM : zMet l D base y bytes maxL ret rm h (va_rf r :: As) v h') (ci : Nat) {T : u_T} {N : Nat} (hc : vwCl[ci]? = some (C, T, N)) (hci : ci < 99) {a0 : Nat} (hrc : rc ci r h = some a0)
    (w1 : Cond.methodLink own index y ∈ zT) (w2 : Cond.instanceMethod y ∈ zT) (w3 : Cond.selects C y y ∈ zT) (w4 : Cond.initialized C ∈ zT) (w5 : Cond.code y bytes maxL ret ∈ zT) (hd : y.cls = C ∧ y.cls ≠ "java/lang/invoke/MethodHandle" ∧ y.cls ≠ "java/lang/invoke/VarHandle" ∧ (parseMethodDescriptor y.desc).map (fun d => d.parameters.length) = some n) (hR : rm.frames + 1 ≤ R.frames ∧ 8 + (maxL + 11) + rm.locals ≤ R.locals)
    (hW : z_W D base s h H) (hS : va_S (zA base) H0 H locs) (hn : As.length = n) (hsize : ls.size = nL) (hroom : (rest.map fun v => v.category).sum ≤ 8) (hst : st0 = As.reverse ++ va_rf r :: rest) (hf : cells + rm.cells ≤ R.cells ∧ slots + rm.slots ≤ R.slots) (hdg : decode cc pc = .ok (.invokevirtual index, 3))
    (kk : ∀ (H1 : Heap) (locs1 : List Loc), z_W D base s h' H1 → va_S (zA base) H0 H1 locs1 → W p l e R s m args below meth c H1 locs1 (cells + rm.cells) (slots + rm.slots) Q (F0 m (pc + 3) ls (v.toList ++ rest))) : W p l e R s m args below meth c H locs cells slots Q (F0 m pc ls st0) := by
  obtain ⟨hx, hb, hml, hown, hts, hret, hlk, hN⟩ := F
  obtain ⟨rfl, hk⟩ := rc_spec hrc
  obtain ⟨r', h1, cell, q1, q2, q3, q4⟩ := hW.obj hk hci
  have hcls := (hW.1.1 ci _ hc).2
  have hG : GoodIn (zwords y bytes maxL ret) (wsV own index C y (zwords y bytes maxL ret)) := by
    intro w hw
    have h5 : w ∈ zT := by
      rcases List.mem_append.mp hw with h | h
      · simp only [List.mem_cons, List.not_mem_nil, or_false] at h
        rcases h with rfl | rfl | rfl | rfl
        · exact w1
        · exact w2
        · exact w3
        · exact w4
      · rcases List.mem_cons.mp h with rfl | h
        · exact w5
        · exact h
    exact ⟨List.mem_cons_of_mem _ h5, good_of_word (List.mem_filter.mp h5).2⟩
  have hts2 : ∀ w ∈ zwords y bytes maxL ret, w.before args s = true := fun w hw => (List.mem_cons.mp hw).elim (fun q => by rw [q]; exact hts _ w5) (hts w)
  refine zw_call (va_runV (As := As) (rest := rest) (b := a0) ⟨hx, hb, hml, hown, hts2⟩ hM (cwV n hts2 hG rfl rfl rfl hd hR) ⟨zPc_blind, ⟨cell, q1, by rw [q3]; rfl, by rw [q2]; exact hcls.1⟩, fun U hU hWm => ⟨rfl, z_W.moved hWm.alike (by rw [hU]; exact hW), zN.warm hWm hN⟩⟩ rfl hn hsize hst (lv_room hroom) hdg hf) hS kk
theorem zw_callI {nL n index maxL : Nat} {own : String} {ret0 : Option FieldType} {y : MethodName} {bytes : ByteArray} {rm : Room} {As : List Value} {v : Option Value} (F : zF p s m args meth c cc nL own ret0) (hM : zMet l D base y bytes maxL none rm h (va_rf r :: As) v h') {a0 : Nat} (hrc : r = some a0)
    (w1 : Cond.methodLink own index y ∈ zT) (w2 : Cond.instanceMethod y ∈ zT) (w4 : Cond.initialized y.cls ∈ zT) (w5 : Cond.code y bytes maxL none ∈ zT) (hy1 : y.name = "<init>") (hd : y.cls ≠ "java/lang/invoke/MethodHandle" ∧ y.cls ≠ "java/lang/invoke/VarHandle" ∧ (parseMethodDescriptor y.desc).map (fun d => d.parameters.length) = some n) (hR : rm.frames + 1 ≤ R.frames ∧ 8 + (maxL + 11) + rm.locals ≤ R.locals)
    (hW : z_W D base s h H) (hS : va_S (zA base) H0 H locs) (hn : As.length = n) (hsize : ls.size = nL) (hroom : (rest.map fun v => v.category).sum ≤ 8) (hst : st0 = As.reverse ++ va_rf r :: rest) (hf : cells + rm.cells ≤ R.cells ∧ slots + rm.slots ≤ R.slots) (hdg : decode cc pc = .ok (.invokespecial index, 3))
    (kk : ∀ (H1 : Heap) (locs1 : List Loc), z_W D base s h' H1 → va_S (zA base) H0 H1 locs1 → W p l e R s m args below meth c H1 locs1 (cells + rm.cells) (slots + rm.slots) Q (F0 m (pc + 3) ls (v.toList ++ rest))) : W p l e R s m args below meth c H locs cells slots Q (F0 m pc ls st0) := by
  obtain ⟨hx, hb, hml, hown, hts, hret, hlk, hN⟩ := F
  subst hrc
  have hts2 : ∀ w ∈ zwords y bytes maxL none, w.before args s = true := fun w hw => (List.mem_cons.mp hw).elim (fun q => by rw [q]; exact hts _ w5) (hts w)
  refine zw_call (va_runI (As := As) (rest := rest) (b := a0) ⟨hx, hb, hml, hown, hts2⟩ hM (cwI n hts2 (zT_goodIn w5) rfl rfl rfl (hts _ w4) (hts _ w1) (hts _ w2) hy1 hd hR) ⟨zPc_blind, fun U hU hWm => ⟨rfl, z_W.moved hWm.alike (by rw [hU]; exact hW), zN.warm hWm hN⟩⟩ rfl hn hsize hst (lv_room hroom) hdg hf) hS kk
theorem zw_callIN {nL n index maxL : Nat} {own host : String} {ret0 : Option FieldType} {y : MethodName} {bytes : ByteArray} {rm : Room} {As : List Value} {v : Option Value} (F : zF p s m args meth c cc nL own ret0) (hM : zMet l D base y bytes maxL none rm h (va_rf r :: As) v h') {a0 : Nat} (hrc : r = some a0)
    (w1 : Cond.methodLinkNest own index y host ∈ tables_1) (w2 : Cond.instanceMethod y ∈ zT) (w4 : Cond.initialized y.cls ∈ zT) (w5 : Cond.code y bytes maxL none ∈ zT) (hy1 : y.name = "<init>") (hd : y.cls ≠ "java/lang/invoke/MethodHandle" ∧ y.cls ≠ "java/lang/invoke/VarHandle" ∧ (parseMethodDescriptor y.desc).map (fun d => d.parameters.length) = some n) (hR : rm.frames + 1 ≤ R.frames ∧ 8 + (maxL + 11) + rm.locals ≤ R.locals)
    (hW : z_W D base s h H) (hS : va_S (zA base) H0 H locs) (hn : As.length = n) (hsize : ls.size = nL) (hroom : (rest.map fun v => v.category).sum ≤ 8) (hst : st0 = As.reverse ++ va_rf r :: rest) (hf : cells + rm.cells ≤ R.cells ∧ slots + rm.slots ≤ R.slots) (hdg : decode cc pc = .ok (.invokespecial index, 3))
    (kk : ∀ (H1 : Heap) (locs1 : List Loc), z_W D base s h' H1 → va_S (zA base) H0 H1 locs1 → W p l e R s m args below meth c H1 locs1 (cells + rm.cells) (slots + rm.slots) Q (F0 m (pc + 3) ls (v.toList ++ rest))) : W p l e R s m args below meth c H locs cells slots Q (F0 m pc ls st0) := by
  obtain ⟨hx, hb, hml, hown, hts, hret, hlk, hN⟩ := F
  subst hrc
  have hts2 : ∀ w ∈ zwords y bytes maxL none, w.before args s = true := fun w hw => (List.mem_cons.mp hw).elim (fun q => by rw [q]; exact hts _ w5) (hts w)
  refine zw_call (va_runIN (As := As) (rest := rest) (b := a0) ⟨hx, hb, hml, hown, hts2⟩ hM ⟨va_cnB n hts2 (zT_goodIn w5) rfl rfl rfl (hN.1 _ _ _ _ w1) (hts _ w4) hd hR, hy1, hts _ w2⟩ ⟨zPc_blind, fun U hU hWm => ⟨rfl, z_W.moved hWm.alike (by rw [hU]; exact hW), zN.warm hWm hN⟩⟩ rfl hn hsize hst (lv_room hroom) hdg hf) hS kk
theorem zw_callS {nL n index maxL : Nat} {own : String} {ret0 ret : Option FieldType} {y : MethodName} {bytes : ByteArray} {rm : Room} {As : List Value} {v : Option Value} (F : zF p s m args meth c cc nL own ret0) (hM : zMet l D base y bytes maxL ret rm h As v h')
    (w1 : Cond.methodLink own index y ∈ zT) (w2 : Cond.static y ∈ zT) (w4 : Cond.initialized y.cls ∈ zT) (w5 : Cond.code y bytes maxL ret ∈ zT) (hd : y.cls ≠ "java/lang/invoke/MethodHandle" ∧ y.cls ≠ "java/lang/invoke/VarHandle" ∧ (parseMethodDescriptor y.desc).map (fun d => d.parameters.length) = some n) (hR : rm.frames + 1 ≤ R.frames ∧ 8 + (maxL + 11) + rm.locals ≤ R.locals)
    (hW : z_W D base s h H) (hS : va_S (zA base) H0 H locs) (hn : As.length = n) (hsize : ls.size = nL) (hroom : (rest.map fun v => v.category).sum ≤ 8) (hst : st0 = As.reverse ++ rest) (hf : cells + rm.cells ≤ R.cells ∧ slots + rm.slots ≤ R.slots) (hdg : decode cc pc = .ok (.invokestatic index, 3))
    (kk : ∀ (H1 : Heap) (locs1 : List Loc), z_W D base s h' H1 → va_S (zA base) H0 H1 locs1 → W p l e R s m args below meth c H1 locs1 (cells + rm.cells) (slots + rm.slots) Q (F0 m (pc + 3) ls (v.toList ++ rest))) : W p l e R s m args below meth c H locs cells slots Q (F0 m pc ls st0) := by
  obtain ⟨hx, hb, hml, hown, hts, hret, hlk, hN⟩ := F
  have hts2 : ∀ w ∈ zwords y bytes maxL ret, w.before args s = true := fun w hw => (List.mem_cons.mp hw).elim (fun q => by rw [q]; exact hts _ w5) (hts w)
  refine zw_call (va_runS (As := As) (rest := rest) ⟨hx, hb, hml, hown, hts2⟩ hM ⟨callB_of n hts2 (zT_goodIn w5) rfl rfl rfl (hts _ w4) (hts _ w1) hd hR, hts _ w2⟩ ⟨zPc_blind, fun U hU hWm => ⟨rfl, z_W.moved hWm.alike (by rw [hU]; exact hW), zN.warm hWm hN⟩⟩ rfl hn hsize hst (lv_room hroom) hdg hf) hS kk
theorem zw_callSN {nL n index maxL : Nat} {own host : String} {ret0 ret : Option FieldType} {y : MethodName} {bytes : ByteArray} {rm : Room} {As : List Value} {v : Option Value} (F : zF p s m args meth c cc nL own ret0) (hM : zMet l D base y bytes maxL ret rm h As v h')
    (w1 : Cond.methodLinkNest own index y host ∈ tables_1) (w2 : Cond.static y ∈ zT) (w4 : Cond.initialized y.cls ∈ zT) (w5 : Cond.code y bytes maxL ret ∈ zT) (hd : y.cls ≠ "java/lang/invoke/MethodHandle" ∧ y.cls ≠ "java/lang/invoke/VarHandle" ∧ (parseMethodDescriptor y.desc).map (fun d => d.parameters.length) = some n) (hR : rm.frames + 1 ≤ R.frames ∧ 8 + (maxL + 11) + rm.locals ≤ R.locals)
    (hW : z_W D base s h H) (hS : va_S (zA base) H0 H locs) (hn : As.length = n) (hsize : ls.size = nL) (hroom : (rest.map fun v => v.category).sum ≤ 8) (hst : st0 = As.reverse ++ rest) (hf : cells + rm.cells ≤ R.cells ∧ slots + rm.slots ≤ R.slots) (hdg : decode cc pc = .ok (.invokestatic index, 3))
    (kk : ∀ (H1 : Heap) (locs1 : List Loc), z_W D base s h' H1 → va_S (zA base) H0 H1 locs1 → W p l e R s m args below meth c H1 locs1 (cells + rm.cells) (slots + rm.slots) Q (F0 m (pc + 3) ls (v.toList ++ rest))) : W p l e R s m args below meth c H locs cells slots Q (F0 m pc ls st0) := by
  obtain ⟨hx, hb, hml, hown, hts, hret, hlk, hN⟩ := F
  have hts2 : ∀ w ∈ zwords y bytes maxL ret, w.before args s = true := fun w hw => (List.mem_cons.mp hw).elim (fun q => by rw [q]; exact hts _ w5) (hts w)
  refine zw_call (va_runSN (As := As) (rest := rest) ⟨hx, hb, hml, hown, hts2⟩ hM ⟨va_cnB n hts2 (zT_goodIn w5) rfl rfl rfl (hN.1 _ _ _ _ w1) (hts _ w4) hd hR, hts _ w2, trivial⟩ ⟨zPc_blind, fun U hU hWm => ⟨rfl, z_W.moved hWm.alike (by rw [hU]; exact hW), zN.warm hWm hN⟩⟩ rfl hn hsize hst (lv_room hroom) hdg hf) hS kk
theorem zw_ireturn {nL : Nat} {own : String} {v : Int32} (F : zF p s m args meth c cc nL own (some .int)) (hW : z_W D base s h H) (hS : va_S (zA base) s.heap H locs) (hdg : decode cc pc = .ok (.ireturn, 1)) : W p l e R s m args below meth c H locs cells slots (MQ below (zQ D base (some (.int v)) h) args s cells slots (zA base)) (F0 m pc ls [.int v]) := by
  obtain ⟨hx, hb, hml, hown, hts, hret, hlk, hN⟩ := F
  exact W.iret (v := v) hx hb hret (fun t ht hWm => ⟨rfl, z_W.moved hWm.alike (by rw [ht]; exact hW), hS.F ht⟩) hS.2.2 hdg hlk
theorem zw_zreturn {nL : Nat} {own : String} {v : Int32} (F : zF p s m args meth c cc nL own (some .boolean)) (hv : v = 0 ∨ v = 1) (hW : z_W D base s h H) (hS : va_S (zA base) s.heap H locs) (hdg : decode cc pc = .ok (.ireturn, 1)) : W p l e R s m args below meth c H locs cells slots (MQ below (zQ D base (some (.int v)) h) args s cells slots (zA base)) (F0 m pc ls [.int v]) := by
  obtain ⟨hx, hb, hml, hown, hts, hret, hlk, hN⟩ := F
  exact W.zret (v := v) hx hb hret (by rcases hv with rfl | rfl <;> rfl) (fun t ht hWm => ⟨rfl, z_W.moved hWm.alike (by rw [ht]; exact hW), hS.F ht⟩) hS.2.2 hdg hlk
theorem zw_vreturn {nL : Nat} {own : String} (F : zF p s m args meth c cc nL own none) (hW : z_W D base s h H) (hS : va_S (zA base) s.heap H locs) (hdg : decode cc pc = .ok (.return_, 1)) : W p l e R s m args below meth c H locs cells slots (MQ below (zQ D base none h) args s cells slots (zA base)) (F0 m pc ls []) := by
  obtain ⟨hx, hb, hml, hown, hts, hret, hlk, hN⟩ := F
  exact W.vret hx hb hret (fun t ht hWm => ⟨rfl, z_W.moved hWm.alike (by rw [ht]; exact hW), hS.F ht⟩) hS.2.2 hdg hlk
theorem zw_areturn {nL : Nat} {own C : String} {v : Option Nat} (F : zF p s m args meth c cc nL own (some (.object C))) (hW : z_W D base s h H) (hS : va_S (zA base) s.heap H locs) (hdg : decode cc pc = .ok (.areturn, 1)) : W p l e R s m args below meth c H locs cells slots (MQ below (zQ D base (some (va_rf v)) h) args s cells slots (zA base)) (F0 m pc ls [va_rf v]) := by
  obtain ⟨hx, hb, hml, hown, hts, hret, hlk, hN⟩ := F
  exact W.aret (v := va_rf v) hx hb hret (Or.inl ⟨_, rfl⟩) (va_rf_or v) (fun t ht hWm => ⟨rfl, z_W.moved hWm.alike (by rw [ht]; exact hW), hS.F ht⟩) hS.2.2 hdg hlk
theorem va_rf_cat (v : Option Nat) : (va_rf v).category = 1 := by cases v <;> rfl
theorem zw_aload_n (hx : p.tables.exec = Jvm.exec) (hb : c.code = cc) {k : Fin 4} {i : Nat} (hdg : decode cc pc = .ok (.aload_n k, 1)) (hi : (k : Nat) = i) (hl : ls[i]? = some (.val (va_rf r))) (kk : W p l e R s m args below meth c H locs cells slots Q (F0 m (pc + 1) ls (va_rf r :: rest))) : W p l e R s m args below meth c H locs cells slots Q (F0 m pc ls rest) := by
  cases r with
  | none => exact lv_aload_nN hx hb hdg hi hl kk
  | some a => exact lv_aload_n hx hb hdg hi hl kk
theorem zw_aload (hx : p.tables.exec = Jvm.exec) (hb : c.code = cc) {i : Nat} (hdg : decode cc pc = .ok (.aload i, 2)) (hl : ls[i]? = some (.val (va_rf r))) (kk : W p l e R s m args below meth c H locs cells slots Q (F0 m (pc + 2) ls (va_rf r :: rest))) : W p l e R s m args below meth c H locs cells slots Q (F0 m pc ls rest) := by
  cases r with
  | none => exact lv_aloadN hx hb hdg hl kk
  | some a => exact lv_aload hx hb hdg hl kk
theorem zw_astore_n (hx : p.tables.exec = Jvm.exec) (hb : c.code = cc) {k : Fin 4} {i nL : Nat} {lv lv' : List (Nat × Value)} (hdg : decode cc pc = .ok (.astore_n k, 1)) (hi : (k : Nat) = i) (q : lv_has ls nL lv) (hn : i < nL) (hl : (i, va_rf r) :: lv.filter (fun q => !(q.1 == i) && !(q.1 + 1 == i && q.2.category == 2)) = lv') (kk : ∀ ls', lv_has ls' nL lv' → W p l e R s m args below meth c H locs cells slots Q (F0 m (pc + 1) ls' rest)) : W p l e R s m args below meth c H locs cells slots Q (F0 m pc ls (va_rf r :: rest)) := by
  cases r with
  | none => exact lv_astore_nN hx hb hdg hi q hn hl kk
  | some a => exact lv_astore_n hx hb hdg hi q hn hl kk
theorem zw_astore (hx : p.tables.exec = Jvm.exec) (hb : c.code = cc) {i nL : Nat} {lv lv' : List (Nat × Value)} (hdg : decode cc pc = .ok (.astore i, 2)) (q : lv_has ls nL lv) (hn : i < nL) (hl : (i, va_rf r) :: lv.filter (fun q => !(q.1 == i) && !(q.1 + 1 == i && q.2.category == 2)) = lv') (kk : ∀ ls', lv_has ls' nL lv' → W p l e R s m args below meth c H locs cells slots Q (F0 m (pc + 2) ls' rest)) : W p l e R s m args below meth c H locs cells slots Q (F0 m pc ls (va_rf r :: rest)) := by
  cases r with
  | none => exact lv_astoreN hx hb hdg q hn hl kk
  | some a => exact lv_astore hx hb hdg q hn hl kk
theorem zw_ifnull (hx : p.tables.exec = Jvm.exec) (hb : c.code = cc) {off : Int} {tgt : Nat} (hdg : decode cc pc = .ok (.ifnull off, 3)) (ht : (pc : Int) + off = (tgt : Int)) (k1 : r = none → W p l e R s m args below meth c H locs cells slots Q (F0 m tgt ls rest)) (k2 : ¬ r = none → W p l e R s m args below meth c H locs cells slots Q (F0 m (pc + 3) ls rest)) : W p l e R s m args below meth c H locs cells slots Q (F0 m pc ls (va_rf r :: rest)) := by
  cases r with
  | none => exact lv_ifnullN hx hb hdg ht (k1 rfl)
  | some a => exact lv_ifnull hx hb hdg (k2 (fun h => by cases h))
theorem zw_ifnonnull (hx : p.tables.exec = Jvm.exec) (hb : c.code = cc) {off : Int} {tgt : Nat} (hdg : decode cc pc = .ok (.ifnonnull off, 3)) (ht : (pc : Int) + off = (tgt : Int)) (k1 : ¬ r = none → W p l e R s m args below meth c H locs cells slots Q (F0 m tgt ls rest)) (k2 : r = none → W p l e R s m args below meth c H locs cells slots Q (F0 m (pc + 3) ls rest)) : W p l e R s m args below meth c H locs cells slots Q (F0 m pc ls (va_rf r :: rest)) := by
  cases r with
  | none => exact lv_ifnonnullN hx hb hdg (k2 rfl)
  | some a => exact lv_ifnonnull hx hb hdg ht (k1 (fun h => by cases h))
theorem zw_null (hx : p.tables.exec = Jvm.exec) (hb : c.code = cc) (hdg : decode cc pc = .ok (.aconst_null, 1)) (kk : W p l e R s m args below meth c H locs cells slots Q (F0 m (pc + 1) ls (va_rf none :: rest))) : W p l e R s m args below meth c H locs cells slots Q (F0 m pc ls rest) := lv_null hx hb hdg kk
end ZC
end
section
/-! Locals of one word each; steps of the pure programs taken apart; switches; a method's entry. -/
def zhas (ls : Array Slot) (n : Nat) (lv : List (Nat × Value)) : Prop := lv_has ls n lv ∧ ∀ q ∈ lv, q.2.category = 1
theorem z_sub {ls : Array Slot} {n : Nat} {l l' : List (Nat × Value)} (h : zhas ls n l) (ks : List Nat) (hl : lv_pick l ks = l') : zhas ls n l' := by
  refine ⟨lv_sub h.1 ks hl, fun q hq => ?_⟩
  rw [← hl] at hq
  obtain ⟨k, -, hk⟩ := List.mem_filterMap.mp hq
  exact h.2 q (List.mem_of_getElem? hk)
theorem z_filter {lv : List (Nat × Value)} {i : Nat} (hc : ∀ q ∈ lv, q.2.category = 1) : lv.filter (fun q => !(q.1 == i) && !(q.1 + 1 == i && q.2.category == 2)) = lv.filter (fun q => !(q.1 == i)) := by
  refine List.filter_congr (fun q hq => ?_)
  rw [hc q hq]
  simp
theorem z_stored {ls : Array Slot} {n i : Nat} {v : Value} {lv lv' : List (Nat × Value)} (h : zhas ls n lv) (hv : v.category = 1) (hl : (i, v) :: lv.filter (fun q => !(q.1 == i)) = lv') : ∀ q ∈ lv', q.2.category = 1 := by
  intro q hq
  rw [← hl] at hq
  rcases List.mem_cons.mp hq with rfl | hq
  · exact hv
  · exact h.2 q (List.mem_filter.mp hq).1
section ZL
variable {p : Program} {l : Launch} {e : Env} {R : Room} {s : State} {m : MethodId} {args : Array Value} {below : List Frame} {meth : Method} {c : Code} {H : Heap} {locs : List Loc} {cells slots : Nat} {Q : State → Prop}
variable {cc : ByteArray} {pc : Nat} {ls : Array Slot} {rest : List Value} {r : Option Nat}
theorem zl_istore_n (hx : p.tables.exec = Jvm.exec) (hb : c.code = cc) {k : Fin 4} {i nL : Nat} {x : Int32} {lv lv' : List (Nat × Value)} (hdg : decode cc pc = .ok (.istore_n k, 1)) (hi : (k : Nat) = i) (h : zhas ls nL lv) (hn : i < nL) (hl : (i, Value.int x) :: lv.filter (fun q => !(q.1 == i)) = lv') (kk : ∀ ls' : Array Slot, zhas ls' nL lv' → W p l e R s m args below meth c H locs cells slots Q (F0 m (pc + 1) ls' rest)) : W p l e R s m args below meth c H locs cells slots Q (F0 m pc ls (.int x :: rest)) :=
  lv_istore_n hx hb hdg hi h.1 hn (by rw [z_filter h.2]; exact hl) (fun ls' q => kk ls' ⟨q, z_stored h rfl hl⟩)
theorem zl_istore (hx : p.tables.exec = Jvm.exec) (hb : c.code = cc) {i nL : Nat} {x : Int32} {lv lv' : List (Nat × Value)} (hdg : decode cc pc = .ok (.istore i, 2)) (h : zhas ls nL lv) (hn : i < nL) (hl : (i, Value.int x) :: lv.filter (fun q => !(q.1 == i)) = lv') (kk : ∀ ls' : Array Slot, zhas ls' nL lv' → W p l e R s m args below meth c H locs cells slots Q (F0 m (pc + 2) ls' rest)) : W p l e R s m args below meth c H locs cells slots Q (F0 m pc ls (.int x :: rest)) :=
  lv_istore hx hb hdg h.1 hn (by rw [z_filter h.2]; exact hl) (fun ls' q => kk ls' ⟨q, z_stored h rfl hl⟩)
theorem zl_astore_n (hx : p.tables.exec = Jvm.exec) (hb : c.code = cc) {k : Fin 4} {i nL : Nat} {lv lv' : List (Nat × Value)} (hdg : decode cc pc = .ok (.astore_n k, 1)) (hi : (k : Nat) = i) (h : zhas ls nL lv) (hn : i < nL) (hl : (i, va_rf r) :: lv.filter (fun q => !(q.1 == i)) = lv') (kk : ∀ ls' : Array Slot, zhas ls' nL lv' → W p l e R s m args below meth c H locs cells slots Q (F0 m (pc + 1) ls' rest)) : W p l e R s m args below meth c H locs cells slots Q (F0 m pc ls (va_rf r :: rest)) :=
  zw_astore_n hx hb hdg hi h.1 hn (by rw [z_filter h.2]; exact hl) (fun ls' q => kk ls' ⟨q, z_stored h (va_rf_cat r) hl⟩)
theorem zl_astore (hx : p.tables.exec = Jvm.exec) (hb : c.code = cc) {i nL : Nat} {lv lv' : List (Nat × Value)} (hdg : decode cc pc = .ok (.astore i, 2)) (h : zhas ls nL lv) (hn : i < nL) (hl : (i, va_rf r) :: lv.filter (fun q => !(q.1 == i)) = lv') (kk : ∀ ls' : Array Slot, zhas ls' nL lv' → W p l e R s m args below meth c H locs cells slots Q (F0 m (pc + 2) ls' rest)) : W p l e R s m args below meth c H locs cells slots Q (F0 m pc ls (va_rf r :: rest)) :=
  zw_astore hx hb hdg h.1 hn (by rw [z_filter h.2]; exact hl) (fun ls' q => kk ls' ⟨q, z_stored h (va_rf_cat r) hl⟩)
theorem zl_iinc (hx : p.tables.exec = Jvm.exec) (hb : c.code = cc) {i nL k : Nat} {n : Int} {x v : Int32} {lv lv' : List (Nat × Value)} (hdg : decode cc pc = .ok (.iinc i n, 3)) (h : zhas ls nL lv) (hk : lv[k]? = some (i, .int x)) (hv : x + Int32.ofInt n = v) (hn : i < nL) (hl : (i, Value.int v) :: lv.filter (fun q => !(q.1 == i)) = lv') (kk : ∀ ls' : Array Slot, zhas ls' nL lv' → W p l e R s m args below meth c H locs cells slots Q (F0 m (pc + 3) ls' rest)) : W p l e R s m args below meth c H locs cells slots Q (F0 m pc ls rest) :=
  lv_iinc hx hb hdg h.1 hk hv hn (by rw [z_filter h.2]; exact hl) (fun ls' q => kk ls' ⟨q, z_stored h rfl hl⟩)
/-- a table switch at a place of the table -/
theorem zl_tab (hx : p.tables.exec = Jvm.exec) (hb : c.code = cc) {dflt lo hi : Int} {offs : Array Int} {len : Nat} {x : Int32} (v : Int) (off : Int) {tgt : Nat} (hdg : decode cc pc = .ok (.tableswitch dflt lo hi offs, len)) (hv : x.toInt = v) (h : lo ≤ v ∧ v ≤ hi ∧ offs[(v - lo).toNat]? = some off ∧ (pc : Int) + off = (tgt : Int)) (kk : W p l e R s m args below meth c H locs cells slots Q (F0 m tgt ls rest)) : W p l e R s m args below meth c H locs cells slots Q (F0 m pc ls (.int x :: rest)) :=
  lv_tableIn hx hb hdg (by rw [hv]; omega) (by rw [hv]; omega) (by rw [hv]; exact h.2.2.1) h.2.2.2 kk
/-- a table switch elsewhere -/
theorem zl_tabD (hx : p.tables.exec = Jvm.exec) (hb : c.code = cc) {dflt lo hi : Int} {offs : Array Int} {len : Nat} {x : Int32} (ks : List Int) {tgt : Nat} (hdg : decode cc pc = .ok (.tableswitch dflt lo hi offs, len)) (hk : ∀ k ∈ ks, ¬ x.toInt = k) (h : (List.range (hi - lo + 1).toNat).all (fun i => offs[i]? == some dflt || ks.contains (lo + i)) = true ∧ (pc : Int) + dflt = (tgt : Int)) (kk : W p l e R s m args below meth c H locs cells slots Q (F0 m tgt ls rest)) : W p l e R s m args below meth c H locs cells slots Q (F0 m pc ls (.int x :: rest)) := by
  by_cases h1 : x.toInt < lo
  · exact lv_tableOut hx hb hdg (Or.inl h1) h.2 kk
  · by_cases h2 : hi < x.toInt
    · exact lv_tableOut hx hb hdg (Or.inr h2) h.2 kk
    · have h3 := List.all_eq_true.mp h.1 (x.toInt - lo).toNat (List.mem_range.mpr (by omega))
      have h4 : lo + ((x.toInt - lo).toNat : Int) = x.toInt := by omega
      rw [h4, Bool.or_eq_true] at h3
      rcases h3 with h3 | h3
      · exact lv_tableIn hx hb hdg h1 h2 (by simpa using h3) h.2 kk
      · exact absurd rfl (hk _ (by simpa using h3))
end ZL
theorem ob {α β : Type} {x : Option α} {f : α → Option β} {b : β} (h : x.bind f = some b) : ∃ a, x = some a ∧ f a = some b := by
  cases x with
  | none => cases h
  | some a => exact ⟨a, rfl, h⟩
theorem oift {α : Type} {c : Prop} [Decidable c] {a b x : α} (hc : c) (h : (if c then a else b) = x) : a = x := by rw [if_pos hc] at h; exact h
theorem oiff {α : Type} {c : Prop} [Decidable c] {a b x : α} (hc : ¬ c) (h : (if c then a else b) = x) : b = x := by rw [if_neg hc] at h; exact h
theorem oret {α β : Type} {a c : α} {b d : β} (h : some (a, b) = some (c, d)) : c = a ∧ d = b := by cases h; exact ⟨rfl, rfl⟩
theorem oretv {α : Type} {a b : α} (h : some a = some b) : b = a := by cases h; rfl
/-- a boolean answer -/
def rZ (v : Int32) (h : zH) : Option (Int32 × zH) := if v = 0 ∨ v = 1 then some (v, h) else none
theorem oretz {v r : Int32} {h h' : zH} (q : rZ v h = some (r, h')) : (v = 0 ∨ v = 1) ∧ r = v ∧ h' = h := by
  unfold rZ at q
  split at q
  · next hv => cases q; exact ⟨hv, rfl, rfl⟩
  · cases q
theorem z_bool {v : Int32} (h : v = 0 ∨ v = 1) : narrow .boolean (.int v) = .int v ∧ fits .boolean (.int v) = true := by rcases h with rfl | rfl <;> exact ⟨rfl, rfl⟩
theorem z_refn {C : String} (v : Option Nat) : narrow (.object C) (va_rf v) = va_rf v := by cases v <;> rfl
theorem z_reff {C : String} (v : Option Nat) : fits (.object C) (va_rf v) = true := by cases v <;> rfl
theorem z_arrn {t : FieldType} (v : Option Nat) : narrow (.array t) (va_rf v) = va_rf v := by cases v <;> rfl
theorem z_arrf {t : FieldType} (v : Option Nat) : fits (.array t) (va_rf v) = true := by cases v <;> rfl
def zargs : Nat → List Value → List (Nat × Value)
  | _, [] => []
  | i, v :: vs => (i, v) :: zargs (i + 1) vs
theorem zargs_eq : ∀ (vs : List Value) (i : Nat), (∀ v ∈ vs, v.category = 1) → lv_args i vs = zargs i vs
  | [], _, _ => rfl
  | v :: vs, i, h => by
    have h1 : v.category = 1 := h v List.mem_cons_self
    simp only [lv_args, zargs, h1]
    rw [if_neg (by decide), zargs_eq vs (i + 1) (fun w hw => h w (List.mem_cons_of_mem _ hw))]
theorem zsl_len : ∀ (vs : List Value), (∀ v ∈ vs, v.category = 1) → (lg_sl vs).length = vs.length
  | [], _ => rfl
  | v :: vs, h => by
    have h1 : v.category = 1 := h v List.mem_cons_self
    have h2 := zsl_len vs (fun w hw => h w (List.mem_cons_of_mem _ hw))
    unfold lg_sl at h2 ⊢
    rw [List.flatMap_cons, List.length_append, h2, h1]
    simp [Nat.add_comm]
theorem zargs_cat : ∀ (vs : List Value) (i : Nat), (∀ v ∈ vs, v.category = 1) → ∀ q ∈ zargs i vs, q.2.category = 1
  | [], _, _, q, hq => by cases hq
  | v :: vs, i, h, q, hq => by
    rcases List.mem_cons.mp hq with rfl | hq
    · exact h v List.mem_cons_self
    · exact zargs_cat vs (i + 1) (fun w hw => h w (List.mem_cons_of_mem _ hw)) q hq
theorem z_entry (m : MethodId) (vs : List Value) (n : Nat) (hc : ∀ v ∈ vs, v.category = 1) (hn : vs.length ≤ n) : ∃ ls : Array Slot, entryFrame m vs.toArray n = F0 m 0 ls [] ∧ zhas ls n (zargs 0 vs) := by
  have h1 := lv_entry vs (n := n) (by rw [zsl_len vs hc]; exact hn)
  rw [zargs_eq vs 0 hc] at h1
  exact ⟨_, lg_entry_eq m vs n, h1, zargs_cat vs 0 hc⟩
/-- out of a walk of its body: a method's contract -/
theorem zMet.of {l : Launch} {D : va_G} {base : Nat} {y : MethodName} {cc : ByteArray} {n : Nat} {ret : Option FieldType} {rm : Room} {h : zH} {av : List Value} {v : Option Value} {h' : zH} (hy : plainName y.cls = true) (hc : ∀ v ∈ av, v.category = 1) (hn : av.length ≤ n)
    (body : ∀ (p : Program) (e : Env) (s : State) (m : MethodId) (args : Array Value) (below : List Frame) (meth : Method) (c : Code) (ls : Array Slot), zF p s m args meth c cc n y.cls ret → (y.name = "<init>" → meth.name = "<init>") → zhas ls n (zargs 0 av) → z_W D base s h s.heap → va_S (zA base) s.heap s.heap [] → W p l e rm s m args below meth c s.heap [] 0 0 (MQ below (zQ D base v h') args s rm.cells rm.slots (zA base)) (F0 m 0 ls [])) : zMet l D base y cc n ret rm h av v h' := by
  refine Met.ofW (cc := cc) (maxL := n) (ret := ret) hy rfl ?_
  intro p e s m args below meth c s₁ B hml hv
  obtain ⟨rfl, hW, hN⟩ := hv
  have hts : ∀ w ∈ zT, w.before av.toArray s = true := fun w hw => atoms_spec (ws := zwords y cc n ret) B.pre w (List.mem_cons_of_mem _ hw)
  obtain ⟨ls, e1, e2⟩ := z_entry m av n hc hn
  rw [e1]
  exact body p e s m av.toArray below meth c ls ⟨B.exec, B.bytes, hml, findClass_of_methodNamed B.named, hts, B.returns, B.notSynchronized, hN⟩ (fun hi => (name_of_methodNamed B.named B.method).1.trans hi) e2 hW va_S.rf
end
