section
-- ===== PART A: goes FIRST, ahead of the names: the tables' words, and 'selects' of the private methods out of them =====
/-- a private method of a class that the tables say can be made, by its rows of tables_1 -/
def lw_okq (q : MethodName × Nat) : Prop := (q.1.cls ≠ "java/lang/invoke/MethodHandle" ∧ q.1.cls ≠ "java/lang/invoke/VarHandle") ∧ Cond.instantiable q.1.cls q.2 ∈ tables_1 ∧ Cond.privateMethod q.1 ∈ tables_1 ∧ Cond.instanceMethod q.1 ∈ tables_1
theorem lw_p0 : lw_okq (⟨"DeadCode$Usage", "nextToVisit", "()I"⟩, 3) := ⟨⟨by decide +kernel, by decide +kernel⟩, List.mem_of_getElem? (i := 39) (by decide +kernel), List.mem_of_getElem? (i := 201) (by decide +kernel), List.mem_of_getElem? (i := 202) (by decide +kernel)⟩
theorem lw_p1 : lw_okq (⟨"DeadCode$Facts", "bring", "(LDeadCode$Code;I)Z"⟩, 3) := ⟨⟨by decide +kernel, by decide +kernel⟩, List.mem_of_getElem? (i := 20) (by decide +kernel), List.mem_of_getElem? (i := 211) (by decide +kernel), List.mem_of_getElem? (i := 212) (by decide +kernel)⟩
theorem lw_p2 : lw_okq (⟨"DeadCode$Facts", "goOn", "(LDeadCode$Code;I)Z"⟩, 3) := ⟨⟨by decide +kernel, by decide +kernel⟩, List.mem_of_getElem? (i := 20) (by decide +kernel), List.mem_of_getElem? (i := 231) (by decide +kernel), List.mem_of_getElem? (i := 232) (by decide +kernel)⟩
theorem lw_p3 : lw_okq (⟨"DeadCode$Facts", "makeBrought", "(LDeadCode$Code;I)V"⟩, 3) := ⟨⟨by decide +kernel, by decide +kernel⟩, List.mem_of_getElem? (i := 20) (by decide +kernel), List.mem_of_getElem? (i := 235) (by decide +kernel), List.mem_of_getElem? (i := 236) (by decide +kernel)⟩
theorem lw_p4 : lw_okq (⟨"DeadCode$Facts", "partAhead", "(LDeadCode$Code;II)J"⟩, 3) := ⟨⟨by decide +kernel, by decide +kernel⟩, List.mem_of_getElem? (i := 20) (by decide +kernel), List.mem_of_getElem? (i := 246) (by decide +kernel), List.mem_of_getElem? (i := 247) (by decide +kernel)⟩
theorem lw_p5 : lw_okq (⟨"DeadCode$Facts", "goesNext", "(LDeadCode$Code;I)Z"⟩, 3) := ⟨⟨by decide +kernel, by decide +kernel⟩, List.mem_of_getElem? (i := 20) (by decide +kernel), List.mem_of_getElem? (i := 256) (by decide +kernel), List.mem_of_getElem? (i := 257) (by decide +kernel)⟩
theorem lw_p6 : lw_okq (⟨"DeadCode$Facts", "takenMark", "(LDeadCode$Code;I)I"⟩, 3) := ⟨⟨by decide +kernel, by decide +kernel⟩, List.mem_of_getElem? (i := 20) (by decide +kernel), List.mem_of_getElem? (i := 260) (by decide +kernel), List.mem_of_getElem? (i := 261) (by decide +kernel)⟩
theorem lw_p7 : lw_okq (⟨"DeadCode$Facts", "jumpFrom", "(LDeadCode$Code;I)I"⟩, 3) := ⟨⟨by decide +kernel, by decide +kernel⟩, List.mem_of_getElem? (i := 20) (by decide +kernel), List.mem_of_getElem? (i := 264) (by decide +kernel), List.mem_of_getElem? (i := 265) (by decide +kernel)⟩
theorem lw_p8 : lw_okq (⟨"DeadCode$Usage", "noteReached", "(LDeadCode$Code;LDeadCode$Facts;)V"⟩, 3) := ⟨⟨by decide +kernel, by decide +kernel⟩, List.mem_of_getElem? (i := 39) (by decide +kernel), List.mem_of_getElem? (i := 268) (by decide +kernel), List.mem_of_getElem? (i := 269) (by decide +kernel)⟩
theorem lw_p9 : lw_okq (⟨"DeadCode$Usage", "note", "(II)V"⟩, 3) := ⟨⟨by decide +kernel, by decide +kernel⟩, List.mem_of_getElem? (i := 39) (by decide +kernel), List.mem_of_getElem? (i := 275) (by decide +kernel), List.mem_of_getElem? (i := 276) (by decide +kernel)⟩
theorem lw_p10 : lw_okq (⟨"DeadCode$Facts", "readOn", "(LDeadCode$Code;I)I"⟩, 3) := ⟨⟨by decide +kernel, by decide +kernel⟩, List.mem_of_getElem? (i := 20) (by decide +kernel), List.mem_of_getElem? (i := 297) (by decide +kernel), List.mem_of_getElem? (i := 298) (by decide +kernel)⟩
theorem lw_p11 : lw_okq (⟨"DeadCode$Facts", "readFrom", "(LDeadCode$Code;I)I"⟩, 3) := ⟨⟨by decide +kernel, by decide +kernel⟩, List.mem_of_getElem? (i := 20) (by decide +kernel), List.mem_of_getElem? (i := 301) (by decide +kernel), List.mem_of_getElem? (i := 302) (by decide +kernel)⟩
theorem lw_p12 : lw_okq (⟨"DeadCode$Shrinker", "countStaying", "(LDeadCode$Code;LDeadCode$Facts;)V"⟩, 1) := ⟨⟨by decide +kernel, by decide +kernel⟩, List.mem_of_getElem? (i := 55) (by decide +kernel), List.mem_of_getElem? (i := 314) (by decide +kernel), List.mem_of_getElem? (i := 315) (by decide +kernel)⟩
theorem lw_p13 : lw_okq (⟨"DeadCode$Facts", "canFail", "(LDeadCode$Code;I)Z"⟩, 3) := ⟨⟨by decide +kernel, by decide +kernel⟩, List.mem_of_getElem? (i := 20) (by decide +kernel), List.mem_of_getElem? (i := 323) (by decide +kernel), List.mem_of_getElem? (i := 324) (by decide +kernel)⟩
theorem lw_p14 : lw_okq (⟨"DeadCode$Facts", "idleMark", "(LDeadCode$Code;I)I"⟩, 3) := ⟨⟨by decide +kernel, by decide +kernel⟩, List.mem_of_getElem? (i := 20) (by decide +kernel), List.mem_of_getElem? (i := 327) (by decide +kernel), List.mem_of_getElem? (i := 328) (by decide +kernel)⟩
theorem lw_p15 : lw_okq (⟨"DeadCode$Facts", "isSafeDivision", "(LDeadCode$Code;I)Z"⟩, 3) := ⟨⟨by decide +kernel, by decide +kernel⟩, List.mem_of_getElem? (i := 20) (by decide +kernel), List.mem_of_getElem? (i := 335) (by decide +kernel), List.mem_of_getElem? (i := 336) (by decide +kernel)⟩
def lw_privs_1 : List (MethodName × Nat) := [(⟨"DeadCode$Usage", "nextToVisit", "()I"⟩, 3), (⟨"DeadCode$Facts", "bring", "(LDeadCode$Code;I)Z"⟩, 3), (⟨"DeadCode$Facts", "goOn", "(LDeadCode$Code;I)Z"⟩, 3), (⟨"DeadCode$Facts", "makeBrought", "(LDeadCode$Code;I)V"⟩, 3), (⟨"DeadCode$Facts", "partAhead", "(LDeadCode$Code;II)J"⟩, 3), (⟨"DeadCode$Facts", "goesNext", "(LDeadCode$Code;I)Z"⟩, 3), (⟨"DeadCode$Facts", "takenMark", "(LDeadCode$Code;I)I"⟩, 3), (⟨"DeadCode$Facts", "jumpFrom", "(LDeadCode$Code;I)I"⟩, 3), (⟨"DeadCode$Usage", "noteReached", "(LDeadCode$Code;LDeadCode$Facts;)V"⟩, 3), (⟨"DeadCode$Usage", "note", "(II)V"⟩, 3), (⟨"DeadCode$Facts", "readOn", "(LDeadCode$Code;I)I"⟩, 3), (⟨"DeadCode$Facts", "readFrom", "(LDeadCode$Code;I)I"⟩, 3), (⟨"DeadCode$Shrinker", "countStaying", "(LDeadCode$Code;LDeadCode$Facts;)V"⟩, 1), (⟨"DeadCode$Facts", "canFail", "(LDeadCode$Code;I)Z"⟩, 3), (⟨"DeadCode$Facts", "idleMark", "(LDeadCode$Code;I)I"⟩, 3), (⟨"DeadCode$Facts", "isSafeDivision", "(LDeadCode$Code;I)Z"⟩, 3)]
theorem lw_r1 : ∀ q ∈ lw_privs_1, lw_okq q := List.forall_mem_cons.mpr ⟨lw_p0, List.forall_mem_cons.mpr ⟨lw_p1, List.forall_mem_cons.mpr ⟨lw_p2, List.forall_mem_cons.mpr ⟨lw_p3, List.forall_mem_cons.mpr ⟨lw_p4, List.forall_mem_cons.mpr ⟨lw_p5, List.forall_mem_cons.mpr ⟨lw_p6, List.forall_mem_cons.mpr ⟨lw_p7, List.forall_mem_cons.mpr ⟨lw_p8, List.forall_mem_cons.mpr ⟨lw_p9, List.forall_mem_cons.mpr ⟨lw_p10, List.forall_mem_cons.mpr ⟨lw_p11, List.forall_mem_cons.mpr ⟨lw_p12, List.forall_mem_cons.mpr ⟨lw_p13, List.forall_mem_cons.mpr ⟨lw_p14, List.forall_mem_cons.mpr ⟨lw_p15, fun _ h => absurd h List.not_mem_nil⟩⟩⟩⟩⟩⟩⟩⟩⟩⟩⟩⟩⟩⟩⟩⟩
theorem lw_p16 : lw_okq (⟨"DeadCode$Shrinker", "rewrite", "(LDeadCode$Code;LDeadCode$Facts;)Z"⟩, 1) := ⟨⟨by decide +kernel, by decide +kernel⟩, List.mem_of_getElem? (i := 55) (by decide +kernel), List.mem_of_getElem? (i := 342) (by decide +kernel), List.mem_of_getElem? (i := 343) (by decide +kernel)⟩
theorem lw_p17 : lw_okq (⟨"DeadCode$Shrinker", "rewriteOne", "(LDeadCode$Code;IZ)Z"⟩, 1) := ⟨⟨by decide +kernel, by decide +kernel⟩, List.mem_of_getElem? (i := 55) (by decide +kernel), List.mem_of_getElem? (i := 347) (by decide +kernel), List.mem_of_getElem? (i := 348) (by decide +kernel)⟩
theorem lw_p18 : lw_okq (⟨"DeadCode", "refusal", "(II)I"⟩, 8) := ⟨⟨by decide +kernel, by decide +kernel⟩, List.mem_of_getElem? (i := 10) (by decide +kernel), List.mem_of_getElem? (i := 359) (by decide +kernel), List.mem_of_getElem? (i := 360) (by decide +kernel)⟩
theorem lw_p19 : lw_okq (⟨"DeadCode", "programOf", "(I)[LDeadCode$Code;"⟩, 8) := ⟨⟨by decide +kernel, by decide +kernel⟩, List.mem_of_getElem? (i := 10) (by decide +kernel), List.mem_of_getElem? (i := 363) (by decide +kernel), List.mem_of_getElem? (i := 364) (by decide +kernel)⟩
theorem lw_p20 : lw_okq (⟨"DeadCode$Runner", "enter", "(III)V"⟩, 10) := ⟨⟨by decide +kernel, by decide +kernel⟩, List.mem_of_getElem? (i := 65) (by decide +kernel), List.mem_of_getElem? (i := 375) (by decide +kernel), List.mem_of_getElem? (i := 376) (by decide +kernel)⟩
theorem lw_p21 : lw_okq (⟨"DeadCode$Runner", "takeTurn", "([LDeadCode$Code;)V"⟩, 10) := ⟨⟨by decide +kernel, by decide +kernel⟩, List.mem_of_getElem? (i := 65) (by decide +kernel), List.mem_of_getElem? (i := 379) (by decide +kernel), List.mem_of_getElem? (i := 380) (by decide +kernel)⟩
theorem lw_p22 : lw_okq (⟨"DeadCode$Runner", "leave", "([LDeadCode$Code;I)V"⟩, 10) := ⟨⟨by decide +kernel, by decide +kernel⟩, List.mem_of_getElem? (i := 65) (by decide +kernel), List.mem_of_getElem? (i := 384) (by decide +kernel), List.mem_of_getElem? (i := 385) (by decide +kernel)⟩
theorem lw_p23 : lw_okq (⟨"DeadCode$Runner", "setRegister", "(II)V"⟩, 10) := ⟨⟨by decide +kernel, by decide +kernel⟩, List.mem_of_getElem? (i := 65) (by decide +kernel), List.mem_of_getElem? (i := 389) (by decide +kernel), List.mem_of_getElem? (i := 390) (by decide +kernel)⟩
theorem lw_p24 : lw_okq (⟨"DeadCode$Runner", "goNext", "()V"⟩, 10) := ⟨⟨by decide +kernel, by decide +kernel⟩, List.mem_of_getElem? (i := 65) (by decide +kernel), List.mem_of_getElem? (i := 393) (by decide +kernel), List.mem_of_getElem? (i := 394) (by decide +kernel)⟩
theorem lw_p25 : lw_okq (⟨"DeadCode$Runner", "follow", "([LDeadCode$Code;LDeadCode$Code;I)V"⟩, 10) := ⟨⟨by decide +kernel, by decide +kernel⟩, List.mem_of_getElem? (i := 65) (by decide +kernel), List.mem_of_getElem? (i := 397) (by decide +kernel), List.mem_of_getElem? (i := 398) (by decide +kernel)⟩
theorem lw_p26 : lw_okq (⟨"DeadCode$Runner", "setAndGo", "(II)V"⟩, 10) := ⟨⟨by decide +kernel, by decide +kernel⟩, List.mem_of_getElem? (i := 65) (by decide +kernel), List.mem_of_getElem? (i := 401) (by decide +kernel), List.mem_of_getElem? (i := 402) (by decide +kernel)⟩
theorem lw_p27 : lw_okq (⟨"DeadCode$Runner", "register", "(I)I"⟩, 10) := ⟨⟨by decide +kernel, by decide +kernel⟩, List.mem_of_getElem? (i := 65) (by decide +kernel), List.mem_of_getElem? (i := 405) (by decide +kernel), List.mem_of_getElem? (i := 406) (by decide +kernel)⟩
theorem lw_p28 : lw_okq (⟨"DeadCode$Runner", "divide", "(III)V"⟩, 10) := ⟨⟨by decide +kernel, by decide +kernel⟩, List.mem_of_getElem? (i := 65) (by decide +kernel), List.mem_of_getElem? (i := 410) (by decide +kernel), List.mem_of_getElem? (i := 411) (by decide +kernel)⟩
theorem lw_p29 : lw_okq (⟨"DeadCode$Runner", "check", "(I)V"⟩, 10) := ⟨⟨by decide +kernel, by decide +kernel⟩, List.mem_of_getElem? (i := 65) (by decide +kernel), List.mem_of_getElem? (i := 414) (by decide +kernel), List.mem_of_getElem? (i := 415) (by decide +kernel)⟩
theorem lw_p30 : lw_okq (⟨"DeadCode$Runner", "speak", "(I)V"⟩, 10) := ⟨⟨by decide +kernel, by decide +kernel⟩, List.mem_of_getElem? (i := 65) (by decide +kernel), List.mem_of_getElem? (i := 418) (by decide +kernel), List.mem_of_getElem? (i := 419) (by decide +kernel)⟩
theorem lw_p31 : lw_okq (⟨"DeadCode", "isInstruction", "(II)Z"⟩, 8) := ⟨⟨by decide +kernel, by decide +kernel⟩, List.mem_of_getElem? (i := 10) (by decide +kernel), List.mem_of_getElem? (i := 455) (by decide +kernel), List.mem_of_getElem? (i := 456) (by decide +kernel)⟩
def lw_privs_2 : List (MethodName × Nat) := [(⟨"DeadCode$Shrinker", "rewrite", "(LDeadCode$Code;LDeadCode$Facts;)Z"⟩, 1), (⟨"DeadCode$Shrinker", "rewriteOne", "(LDeadCode$Code;IZ)Z"⟩, 1), (⟨"DeadCode", "refusal", "(II)I"⟩, 8), (⟨"DeadCode", "programOf", "(I)[LDeadCode$Code;"⟩, 8), (⟨"DeadCode$Runner", "enter", "(III)V"⟩, 10), (⟨"DeadCode$Runner", "takeTurn", "([LDeadCode$Code;)V"⟩, 10), (⟨"DeadCode$Runner", "leave", "([LDeadCode$Code;I)V"⟩, 10), (⟨"DeadCode$Runner", "setRegister", "(II)V"⟩, 10), (⟨"DeadCode$Runner", "goNext", "()V"⟩, 10), (⟨"DeadCode$Runner", "follow", "([LDeadCode$Code;LDeadCode$Code;I)V"⟩, 10), (⟨"DeadCode$Runner", "setAndGo", "(II)V"⟩, 10), (⟨"DeadCode$Runner", "register", "(I)I"⟩, 10), (⟨"DeadCode$Runner", "divide", "(III)V"⟩, 10), (⟨"DeadCode$Runner", "check", "(I)V"⟩, 10), (⟨"DeadCode$Runner", "speak", "(I)V"⟩, 10), (⟨"DeadCode", "isInstruction", "(II)Z"⟩, 8)]
theorem lw_r2 : ∀ q ∈ lw_privs_2, lw_okq q := List.forall_mem_cons.mpr ⟨lw_p16, List.forall_mem_cons.mpr ⟨lw_p17, List.forall_mem_cons.mpr ⟨lw_p18, List.forall_mem_cons.mpr ⟨lw_p19, List.forall_mem_cons.mpr ⟨lw_p20, List.forall_mem_cons.mpr ⟨lw_p21, List.forall_mem_cons.mpr ⟨lw_p22, List.forall_mem_cons.mpr ⟨lw_p23, List.forall_mem_cons.mpr ⟨lw_p24, List.forall_mem_cons.mpr ⟨lw_p25, List.forall_mem_cons.mpr ⟨lw_p26, List.forall_mem_cons.mpr ⟨lw_p27, List.forall_mem_cons.mpr ⟨lw_p28, List.forall_mem_cons.mpr ⟨lw_p29, List.forall_mem_cons.mpr ⟨lw_p30, List.forall_mem_cons.mpr ⟨lw_p31, fun _ h => absurd h List.not_mem_nil⟩⟩⟩⟩⟩⟩⟩⟩⟩⟩⟩⟩⟩⟩⟩⟩
theorem lw_p32 : lw_okq (⟨"DeadCode$Code", "namesThreeFirst", "()Z"⟩, 2) := ⟨⟨by decide +kernel, by decide +kernel⟩, List.mem_of_getElem? (i := 101) (by decide +kernel), List.mem_of_getElem? (i := 494) (by decide +kernel), List.mem_of_getElem? (i := 495) (by decide +kernel)⟩
theorem lw_p33 : lw_okq (⟨"DeadCode$Code", "hasSameParts", "(LDeadCode$Code;IZ)Z"⟩, 2) := ⟨⟨by decide +kernel, by decide +kernel⟩, List.mem_of_getElem? (i := 101) (by decide +kernel), List.mem_of_getElem? (i := 498) (by decide +kernel), List.mem_of_getElem? (i := 499) (by decide +kernel)⟩
theorem lw_p34 : lw_okq (⟨"DeadCodeModel", "isPlace", "(II)Z"⟩, 29) := ⟨⟨by decide +kernel, by decide +kernel⟩, List.mem_of_getElem? (i := 516) (by decide +kernel), List.mem_of_getElem? (i := 650) (by decide +kernel), List.mem_of_getElem? (i := 651) (by decide +kernel)⟩
theorem lw_p35 : lw_okq (⟨"DeadCodeModel", "find", "(II)V"⟩, 29) := ⟨⟨by decide +kernel, by decide +kernel⟩, List.mem_of_getElem? (i := 516) (by decide +kernel), List.mem_of_getElem? (i := 654) (by decide +kernel), List.mem_of_getElem? (i := 655) (by decide +kernel)⟩
theorem lw_p36 : lw_okq (⟨"DeadCodeModel", "know", "(II)V"⟩, 29) := ⟨⟨by decide +kernel, by decide +kernel⟩, List.mem_of_getElem? (i := 516) (by decide +kernel), List.mem_of_getElem? (i := 658) (by decide +kernel), List.mem_of_getElem? (i := 659) (by decide +kernel)⟩
theorem lw_p37 : lw_okq (⟨"DeadCodeModel", "brings", "(I)V"⟩, 29) := ⟨⟨by decide +kernel, by decide +kernel⟩, List.mem_of_getElem? (i := 516) (by decide +kernel), List.mem_of_getElem? (i := 663) (by decide +kernel), List.mem_of_getElem? (i := 664) (by decide +kernel)⟩
theorem lw_p38 : lw_okq (⟨"DeadCodeModel", "goOn", "(I)V"⟩, 29) := ⟨⟨by decide +kernel, by decide +kernel⟩, List.mem_of_getElem? (i := 516) (by decide +kernel), List.mem_of_getElem? (i := 667) (by decide +kernel), List.mem_of_getElem? (i := 668) (by decide +kernel)⟩
theorem lw_p39 : lw_okq (⟨"DeadCodeModel", "jumps", "(I)Z"⟩, 29) := ⟨⟨by decide +kernel, by decide +kernel⟩, List.mem_of_getElem? (i := 516) (by decide +kernel), List.mem_of_getElem? (i := 671) (by decide +kernel), List.mem_of_getElem? (i := 672) (by decide +kernel)⟩
theorem lw_p40 : lw_okq (⟨"DeadCodeModel", "taken", "(I)I"⟩, 29) := ⟨⟨by decide +kernel, by decide +kernel⟩, List.mem_of_getElem? (i := 516) (by decide +kernel), List.mem_of_getElem? (i := 675) (by decide +kernel), List.mem_of_getElem? (i := 676) (by decide +kernel)⟩
theorem lw_p41 : lw_okq (⟨"DeadCodeModel", "goal", "(I)I"⟩, 29) := ⟨⟨by decide +kernel, by decide +kernel⟩, List.mem_of_getElem? (i := 516) (by decide +kernel), List.mem_of_getElem? (i := 679) (by decide +kernel), List.mem_of_getElem? (i := 680) (by decide +kernel)⟩
theorem lw_p42 : lw_okq (⟨"DeadCodeModel", "goesOn", "(I)Z"⟩, 29) := ⟨⟨by decide +kernel, by decide +kernel⟩, List.mem_of_getElem? (i := 516) (by decide +kernel), List.mem_of_getElem? (i := 683) (by decide +kernel), List.mem_of_getElem? (i := 684) (by decide +kernel)⟩
theorem lw_p43 : lw_okq (⟨"DeadCodeModel", "sets", "(I)Z"⟩, 29) := ⟨⟨by decide +kernel, by decide +kernel⟩, List.mem_of_getElem? (i := 516) (by decide +kernel), List.mem_of_getElem? (i := 690) (by decide +kernel), List.mem_of_getElem? (i := 691) (by decide +kernel)⟩
theorem lw_p44 : lw_okq (⟨"DeadCodeModel", "readsOf", "(I)I"⟩, 29) := ⟨⟨by decide +kernel, by decide +kernel⟩, List.mem_of_getElem? (i := 516) (by decide +kernel), List.mem_of_getElem? (i := 694) (by decide +kernel), List.mem_of_getElem? (i := 695) (by decide +kernel)⟩
theorem lw_p45 : lw_okq (⟨"DeadCodeModel", "marksOf", "(I)I"⟩, 29) := ⟨⟨by decide +kernel, by decide +kernel⟩, List.mem_of_getElem? (i := 516) (by decide +kernel), List.mem_of_getElem? (i := 698) (by decide +kernel), List.mem_of_getElem? (i := 699) (by decide +kernel)⟩
theorem lw_p46 : lw_okq (⟨"DeadCodeModel", "isIdle", "(I)Z"⟩, 29) := ⟨⟨by decide +kernel, by decide +kernel⟩, List.mem_of_getElem? (i := 516) (by decide +kernel), List.mem_of_getElem? (i := 702) (by decide +kernel), List.mem_of_getElem? (i := 703) (by decide +kernel)⟩
theorem lw_p47 : lw_okq (⟨"DeadCodeModel", "findUsed", "()V"⟩, 29) := ⟨⟨by decide +kernel, by decide +kernel⟩, List.mem_of_getElem? (i := 516) (by decide +kernel), List.mem_of_getElem? (i := 720) (by decide +kernel), List.mem_of_getElem? (i := 721) (by decide +kernel)⟩
def lw_privs_3 : List (MethodName × Nat) := [(⟨"DeadCode$Code", "namesThreeFirst", "()Z"⟩, 2), (⟨"DeadCode$Code", "hasSameParts", "(LDeadCode$Code;IZ)Z"⟩, 2), (⟨"DeadCodeModel", "isPlace", "(II)Z"⟩, 29), (⟨"DeadCodeModel", "find", "(II)V"⟩, 29), (⟨"DeadCodeModel", "know", "(II)V"⟩, 29), (⟨"DeadCodeModel", "brings", "(I)V"⟩, 29), (⟨"DeadCodeModel", "goOn", "(I)V"⟩, 29), (⟨"DeadCodeModel", "jumps", "(I)Z"⟩, 29), (⟨"DeadCodeModel", "taken", "(I)I"⟩, 29), (⟨"DeadCodeModel", "goal", "(I)I"⟩, 29), (⟨"DeadCodeModel", "goesOn", "(I)Z"⟩, 29), (⟨"DeadCodeModel", "sets", "(I)Z"⟩, 29), (⟨"DeadCodeModel", "readsOf", "(I)I"⟩, 29), (⟨"DeadCodeModel", "marksOf", "(I)I"⟩, 29), (⟨"DeadCodeModel", "isIdle", "(I)Z"⟩, 29), (⟨"DeadCodeModel", "findUsed", "()V"⟩, 29)]
theorem lw_r3 : ∀ q ∈ lw_privs_3, lw_okq q := List.forall_mem_cons.mpr ⟨lw_p32, List.forall_mem_cons.mpr ⟨lw_p33, List.forall_mem_cons.mpr ⟨lw_p34, List.forall_mem_cons.mpr ⟨lw_p35, List.forall_mem_cons.mpr ⟨lw_p36, List.forall_mem_cons.mpr ⟨lw_p37, List.forall_mem_cons.mpr ⟨lw_p38, List.forall_mem_cons.mpr ⟨lw_p39, List.forall_mem_cons.mpr ⟨lw_p40, List.forall_mem_cons.mpr ⟨lw_p41, List.forall_mem_cons.mpr ⟨lw_p42, List.forall_mem_cons.mpr ⟨lw_p43, List.forall_mem_cons.mpr ⟨lw_p44, List.forall_mem_cons.mpr ⟨lw_p45, List.forall_mem_cons.mpr ⟨lw_p46, List.forall_mem_cons.mpr ⟨lw_p47, fun _ h => absurd h List.not_mem_nil⟩⟩⟩⟩⟩⟩⟩⟩⟩⟩⟩⟩⟩⟩⟩⟩
theorem lw_p48 : lw_okq (⟨"DeadCodeModel", "isLike", "(II)Z"⟩, 29) := ⟨⟨by decide +kernel, by decide +kernel⟩, List.mem_of_getElem? (i := 516) (by decide +kernel), List.mem_of_getElem? (i := 732) (by decide +kernel), List.mem_of_getElem? (i := 733) (by decide +kernel)⟩
theorem lw_p49 : lw_okq (⟨"DeadCodeModel", "firstOf", "(I)I"⟩, 29) := ⟨⟨by decide +kernel, by decide +kernel⟩, List.mem_of_getElem? (i := 516) (by decide +kernel), List.mem_of_getElem? (i := 736) (by decide +kernel), List.mem_of_getElem? (i := 737) (by decide +kernel)⟩
theorem lw_p50 : lw_okq (⟨"DeadCodeModel", "namedBy", "(II)I"⟩, 29) := ⟨⟨by decide +kernel, by decide +kernel⟩, List.mem_of_getElem? (i := 516) (by decide +kernel), List.mem_of_getElem? (i := 740) (by decide +kernel), List.mem_of_getElem? (i := 741) (by decide +kernel)⟩
theorem lw_p51 : lw_okq (⟨"DeadCodeModel", "isLessened", "(I)Z"⟩, 29) := ⟨⟨by decide +kernel, by decide +kernel⟩, List.mem_of_getElem? (i := 516) (by decide +kernel), List.mem_of_getElem? (i := 751) (by decide +kernel), List.mem_of_getElem? (i := 752) (by decide +kernel)⟩
theorem lw_p52 : lw_okq (⟨"DeadCodeModel", "staying", "(I)I"⟩, 29) := ⟨⟨by decide +kernel, by decide +kernel⟩, List.mem_of_getElem? (i := 516) (by decide +kernel), List.mem_of_getElem? (i := 755) (by decide +kernel), List.mem_of_getElem? (i := 756) (by decide +kernel)⟩
theorem lw_p53 : lw_okq (⟨"DeadCodeModel", "begins", "(IIII)V"⟩, 29) := ⟨⟨by decide +kernel, by decide +kernel⟩, List.mem_of_getElem? (i := 516) (by decide +kernel), List.mem_of_getElem? (i := 763) (by decide +kernel), List.mem_of_getElem? (i := 764) (by decide +kernel)⟩
theorem lw_p54 : lw_okq (⟨"DeadCodeModel", "gives", "(I)V"⟩, 29) := ⟨⟨by decide +kernel, by decide +kernel⟩, List.mem_of_getElem? (i := 516) (by decide +kernel), List.mem_of_getElem? (i := 767) (by decide +kernel), List.mem_of_getElem? (i := 768) (by decide +kernel)⟩
theorem lw_p55 : lw_okq (⟨"DeadCodeModel", "does", "(I)V"⟩, 29) := ⟨⟨by decide +kernel, by decide +kernel⟩, List.mem_of_getElem? (i := 516) (by decide +kernel), List.mem_of_getElem? (i := 771) (by decide +kernel), List.mem_of_getElem? (i := 772) (by decide +kernel)⟩
def lw_privs_4 : List (MethodName × Nat) := [(⟨"DeadCodeModel", "isLike", "(II)Z"⟩, 29), (⟨"DeadCodeModel", "firstOf", "(I)I"⟩, 29), (⟨"DeadCodeModel", "namedBy", "(II)I"⟩, 29), (⟨"DeadCodeModel", "isLessened", "(I)Z"⟩, 29), (⟨"DeadCodeModel", "staying", "(I)I"⟩, 29), (⟨"DeadCodeModel", "begins", "(IIII)V"⟩, 29), (⟨"DeadCodeModel", "gives", "(I)V"⟩, 29), (⟨"DeadCodeModel", "does", "(I)V"⟩, 29)]
theorem lw_r4 : ∀ q ∈ lw_privs_4, lw_okq q := List.forall_mem_cons.mpr ⟨lw_p48, List.forall_mem_cons.mpr ⟨lw_p49, List.forall_mem_cons.mpr ⟨lw_p50, List.forall_mem_cons.mpr ⟨lw_p51, List.forall_mem_cons.mpr ⟨lw_p52, List.forall_mem_cons.mpr ⟨lw_p53, List.forall_mem_cons.mpr ⟨lw_p54, List.forall_mem_cons.mpr ⟨lw_p55, fun _ h => absurd h List.not_mem_nil⟩⟩⟩⟩⟩⟩⟩⟩
def lw_privs : List (MethodName × Nat) := lw_privs_1 ++ (lw_privs_2 ++ (lw_privs_3 ++ (lw_privs_4)))
def lw_tbl : List Cond := k2_sels lw_privs ++ tables_1
theorem lw_privs_ok : ∀ q ∈ lw_privs, lw_okq q := by
  show ∀ q ∈ lw_privs_1 ++ (lw_privs_2 ++ (lw_privs_3 ++ (lw_privs_4))), lw_okq q
  exact List.forall_mem_append.mpr ⟨lw_r1, List.forall_mem_append.mpr ⟨lw_r2, List.forall_mem_append.mpr ⟨lw_r3, lw_r4⟩⟩⟩
end
section
def RX0 : String := "DeadCode$Code"
def TX0 : u_T := fun k => match k with
  | 0 => ("DeadCode$Code", "cells", "[I", true)
  | _ => ("DeadCode$Code", "count", "I", false)
def tyX0 : Nat → FieldType := fun k => match k with
  | 0 => .array .int
  | _ => .int
theorem nmX0 : ∀ a, a < 2 → ∀ b, b < 2 → a ≠ b → (TX0 a).2.1 ≠ (TX0 b).2.1 := by decide +kernel
theorem tyX0_ok : ∀ k, k < 2 → parseFieldDescriptor (TX0 k).2.2.1 = some (tyX0 k) := by decide +kernel
abbrev cX0_init : ByteArray := prog_2_method_1_code
def yX0_init : MethodName := ⟨RX0, "<init>", "()V"⟩
abbrev cX0_count : ByteArray := prog_2_method_2_code
def yX0_count : MethodName := ⟨RX0, "count", "()I"⟩
abbrev cX0_has : ByteArray := prog_2_method_3_code
def yX0_has : MethodName := ⟨RX0, "has", "(I)Z"⟩
abbrev cX0_isFull : ByteArray := prog_2_method_4_code
def yX0_isFull : MethodName := ⟨RX0, "isFull", "()Z"⟩
abbrev cX0_cell : ByteArray := prog_2_method_5_code
def yX0_cell : MethodName := ⟨RX0, "cell", "(II)I"⟩
abbrev cX0_append : ByteArray := prog_2_method_6_code
def yX0_append : MethodName := ⟨RX0, "append", "(IIII)I"⟩
abbrev cX0_write : ByteArray := prog_2_method_7_code
def yX0_write : MethodName := ⟨RX0, "write", "(IIIII)V"⟩
abbrev cX0_drop : ByteArray := prog_2_method_8_code
def yX0_drop : MethodName := ⟨RX0, "drop", "()I"⟩
abbrev cX0_shorten : ByteArray := prog_2_method_9_code
def yX0_shorten : MethodName := ⟨RX0, "shorten", "(I)I"⟩
abbrev cX0_copy : ByteArray := prog_2_method_10_code
def yX0_copy : MethodName := ⟨RX0, "copy", "(LDeadCode$Code;)V"⟩
abbrev cX0_readAt : ByteArray := prog_2_method_11_code
def yX0_readAt : MethodName := ⟨RX0, "readAt", "(I)I"⟩
abbrev cX0_setAt : ByteArray := prog_2_method_12_code
def yX0_setAt : MethodName := ⟨RX0, "setAt", "(I)I"⟩
abbrev cX0_isDoubleOf : ByteArray := prog_2_method_13_code
def yX0_isDoubleOf : MethodName := ⟨RX0, "isDoubleOf", "(LDeadCode$Code;)Z"⟩
abbrev cX0_hasSameParts : ByteArray := prog_2_method_14_code
def yX0_hasSameParts : MethodName := ⟨RX0, "hasSameParts", "(LDeadCode$Code;IZ)Z"⟩
abbrev cX0_namesThreeFirst : ByteArray := prog_2_method_15_code
def yX0_namesThreeFirst : MethodName := ⟨RX0, "namesThreeFirst", "()Z"⟩
def RX1 : String := "DeadCode$Facts"
def TX1 : u_T := fun k => match k with
  | 0 => ("DeadCode$Facts", "ahead", "[J", true)
  | 1 => ("DeadCode$Facts", "readBehind", "[I", true)
  | _ => ("DeadCode$Facts", "brought", "[J", true)
def tyX1 : Nat → FieldType := fun k => match k with
  | 0 => .array .long
  | 1 => .array .int
  | _ => .array .long
theorem nmX1 : ∀ a, a < 3 → ∀ b, b < 3 → a ≠ b → (TX1 a).2.1 ≠ (TX1 b).2.1 := by decide +kernel
theorem tyX1_ok : ∀ k, k < 3 → parseFieldDescriptor (TX1 k).2.2.1 = some (tyX1 k) := by decide +kernel
abbrev cX1_init : ByteArray := prog_3_method_1_code
def yX1_init : MethodName := ⟨RX1, "<init>", "()V"⟩
abbrev cX1_isReached : ByteArray := prog_3_method_2_code
def yX1_isReached : MethodName := ⟨RX1, "isReached", "(I)Z"⟩
abbrev cX1_valueAhead : ByteArray := prog_3_method_3_code
def yX1_valueAhead : MethodName := ⟨RX1, "valueAhead", "(II)J"⟩
abbrev cX1_isReadBehind : ByteArray := prog_3_method_4_code
def yX1_isReadBehind : MethodName := ⟨RX1, "isReadBehind", "(II)Z"⟩
abbrev cX1_marksAt : ByteArray := prog_3_method_5_code
def yX1_marksAt : MethodName := ⟨RX1, "marksAt", "(LDeadCode$Code;I)I"⟩
abbrev cX1_idleMark : ByteArray := prog_3_method_6_code
def yX1_idleMark : MethodName := ⟨RX1, "idleMark", "(LDeadCode$Code;I)I"⟩
abbrev cX1_canFail : ByteArray := prog_3_method_7_code
def yX1_canFail : MethodName := ⟨RX1, "canFail", "(LDeadCode$Code;I)Z"⟩
abbrev cX1_isSafeDivision : ByteArray := prog_3_method_8_code
def yX1_isSafeDivision : MethodName := ⟨RX1, "isSafeDivision", "(LDeadCode$Code;I)Z"⟩
abbrev cX1_takenMark : ByteArray := prog_3_method_9_code
def yX1_takenMark : MethodName := ⟨RX1, "takenMark", "(LDeadCode$Code;I)I"⟩
abbrev cX1_partAhead : ByteArray := prog_3_method_10_code
def yX1_partAhead : MethodName := ⟨RX1, "partAhead", "(LDeadCode$Code;II)J"⟩
abbrev cX1_findValues : ByteArray := prog_3_method_11_code
def yX1_findValues : MethodName := ⟨RX1, "findValues", "(LDeadCode$Code;)V"⟩
abbrev cX1_goOn : ByteArray := prog_3_method_12_code
def yX1_goOn : MethodName := ⟨RX1, "goOn", "(LDeadCode$Code;I)Z"⟩
abbrev cX1_bring : ByteArray := prog_3_method_13_code
def yX1_bring : MethodName := ⟨RX1, "bring", "(LDeadCode$Code;I)Z"⟩
abbrev cX1_makeBrought : ByteArray := prog_3_method_14_code
def yX1_makeBrought : MethodName := ⟨RX1, "makeBrought", "(LDeadCode$Code;I)V"⟩
abbrev cX1_made : ByteArray := prog_3_method_15_code
def yX1_made : MethodName := ⟨RX1, "made", "(IJJ)J"⟩
abbrev cX1_goesNext : ByteArray := prog_3_method_16_code
def yX1_goesNext : MethodName := ⟨RX1, "goesNext", "(LDeadCode$Code;I)Z"⟩
abbrev cX1_jumpFrom : ByteArray := prog_3_method_17_code
def yX1_jumpFrom : MethodName := ⟨RX1, "jumpFrom", "(LDeadCode$Code;I)I"⟩
abbrev cX1_findReads : ByteArray := prog_3_method_18_code
def yX1_findReads : MethodName := ⟨RX1, "findReads", "(LDeadCode$Code;)V"⟩
abbrev cX1_readOn : ByteArray := prog_3_method_19_code
def yX1_readOn : MethodName := ⟨RX1, "readOn", "(LDeadCode$Code;I)I"⟩
abbrev cX1_readFrom : ByteArray := prog_3_method_20_code
def yX1_readFrom : MethodName := ⟨RX1, "readFrom", "(LDeadCode$Code;I)I"⟩
def RX2 : String := "DeadCode$Runner"
def TX2 : u_T := fun k => match k with
  | 0 => ("DeadCode$Runner", "fieldValues", "[I", true)
  | 1 => ("DeadCode$Runner", "spoken", "[I", true)
  | 2 => ("DeadCode$Runner", "registers", "[I", true)
  | 3 => ("DeadCode$Runner", "places", "[I", true)
  | 4 => ("DeadCode$Runner", "members", "[I", true)
  | 5 => ("DeadCode$Runner", "open", "I", false)
  | 6 => ("DeadCode$Runner", "done", "I", false)
  | 7 => ("DeadCode$Runner", "spokenCount", "I", false)
  | 8 => ("DeadCode$Runner", "given", "I", false)
  | _ => ("DeadCode$Runner", "ending", "I", false)
def tyX2 : Nat → FieldType := fun k => match k with
  | 0 => .array .int
  | 1 => .array .int
  | 2 => .array .int
  | 3 => .array .int
  | 4 => .array .int
  | 5 => .int
  | 6 => .int
  | 7 => .int
  | 8 => .int
  | _ => .int
theorem nmX2 : ∀ a, a < 10 → ∀ b, b < 10 → a ≠ b → (TX2 a).2.1 ≠ (TX2 b).2.1 := by decide +kernel
theorem tyX2_ok : ∀ k, k < 10 → parseFieldDescriptor (TX2 k).2.2.1 = some (tyX2 k) := by decide +kernel
abbrev cX2_init : ByteArray := prog_4_method_1_code
def yX2_init : MethodName := ⟨RX2, "<init>", "()V"⟩
abbrev cX2_given : ByteArray := prog_4_method_2_code
def yX2_given : MethodName := ⟨RX2, "given", "()I"⟩
abbrev cX2_done : ByteArray := prog_4_method_3_code
def yX2_done : MethodName := ⟨RX2, "done", "()I"⟩
abbrev cX2_spokenCount : ByteArray := prog_4_method_4_code
def yX2_spokenCount : MethodName := ⟨RX2, "spokenCount", "()I"⟩
abbrev cX2_fieldValue : ByteArray := prog_4_method_5_code
def yX2_fieldValue : MethodName := ⟨RX2, "fieldValue", "(I)I"⟩
abbrev cX2_spokenAt : ByteArray := prog_4_method_6_code
def yX2_spokenAt : MethodName := ⟨RX2, "spokenAt", "(I)I"⟩
abbrev cX2_forget : ByteArray := prog_4_method_7_code
def yX2_forget : MethodName := ⟨RX2, "forget", "()V"⟩
abbrev cX2_perform : ByteArray := prog_4_method_8_code
def yX2_perform : MethodName := ⟨RX2, "perform", "([LDeadCode$Code;III)I"⟩
abbrev cX2_enter : ByteArray := prog_4_method_9_code
def yX2_enter : MethodName := ⟨RX2, "enter", "(III)V"⟩
abbrev cX2_takeTurn : ByteArray := prog_4_method_10_code
def yX2_takeTurn : MethodName := ⟨RX2, "takeTurn", "([LDeadCode$Code;)V"⟩
abbrev cX2_leave : ByteArray := prog_4_method_11_code
def yX2_leave : MethodName := ⟨RX2, "leave", "([LDeadCode$Code;I)V"⟩
abbrev cX2_follow : ByteArray := prog_4_method_12_code
def yX2_follow : MethodName := ⟨RX2, "follow", "([LDeadCode$Code;LDeadCode$Code;I)V"⟩
abbrev cX2_divide : ByteArray := prog_4_method_13_code
def yX2_divide : MethodName := ⟨RX2, "divide", "(III)V"⟩
abbrev cX2_check : ByteArray := prog_4_method_14_code
def yX2_check : MethodName := ⟨RX2, "check", "(I)V"⟩
abbrev cX2_speak : ByteArray := prog_4_method_15_code
def yX2_speak : MethodName := ⟨RX2, "speak", "(I)V"⟩
abbrev cX2_register : ByteArray := prog_4_method_16_code
def yX2_register : MethodName := ⟨RX2, "register", "(I)I"⟩
abbrev cX2_setRegister : ByteArray := prog_4_method_17_code
def yX2_setRegister : MethodName := ⟨RX2, "setRegister", "(II)V"⟩
abbrev cX2_setAndGo : ByteArray := prog_4_method_18_code
def yX2_setAndGo : MethodName := ⟨RX2, "setAndGo", "(II)V"⟩
abbrev cX2_goNext : ByteArray := prog_4_method_19_code
def yX2_goNext : MethodName := ⟨RX2, "goNext", "()V"⟩
def RX3 : String := "DeadCode$Shrinker"
def TX3 : u_T := fun k => match k with
  | _ => ("DeadCode$Shrinker", "stayingAhead", "[I", true)
def tyX3 : Nat → FieldType := fun k => match k with
  | _ => .array .int
theorem nmX3 : ∀ a, a < 1 → ∀ b, b < 1 → a ≠ b → (TX3 a).2.1 ≠ (TX3 b).2.1 := by decide +kernel
theorem tyX3_ok : ∀ k, k < 1 → parseFieldDescriptor (TX3 k).2.2.1 = some (tyX3 k) := by decide +kernel
abbrev cX3_init : ByteArray := prog_5_method_1_code
def yX3_init : MethodName := ⟨RX3, "<init>", "()V"⟩
abbrev cX3_shrink : ByteArray := prog_5_method_2_code
def yX3_shrink : MethodName := ⟨RX3, "shrink", "(LDeadCode$Code;LDeadCode$Facts;)V"⟩
abbrev cX3_countStaying : ByteArray := prog_5_method_3_code
def yX3_countStaying : MethodName := ⟨RX3, "countStaying", "(LDeadCode$Code;LDeadCode$Facts;)V"⟩
abbrev cX3_stays : ByteArray := prog_5_method_4_code
def yX3_stays : MethodName := ⟨RX3, "stays", "(I)Z"⟩
abbrev cX3_rewrite : ByteArray := prog_5_method_5_code
def yX3_rewrite : MethodName := ⟨RX3, "rewrite", "(LDeadCode$Code;LDeadCode$Facts;)Z"⟩
abbrev cX3_rewriteOne : ByteArray := prog_5_method_6_code
def yX3_rewriteOne : MethodName := ⟨RX3, "rewriteOne", "(LDeadCode$Code;IZ)Z"⟩
def RX4 : String := "DeadCode$Usage"
def TX4 : u_T := fun k => match k with
  | 0 => ("DeadCode$Usage", "usedMembers", "[Z", true)
  | 1 => ("DeadCode$Usage", "visited", "[Z", true)
  | _ => ("DeadCode$Usage", "ofFields", "[I", true)
def tyX4 : Nat → FieldType := fun k => match k with
  | 0 => .array .boolean
  | 1 => .array .boolean
  | _ => .array .int
theorem nmX4 : ∀ a, a < 3 → ∀ b, b < 3 → a ≠ b → (TX4 a).2.1 ≠ (TX4 b).2.1 := by decide +kernel
theorem tyX4_ok : ∀ k, k < 3 → parseFieldDescriptor (TX4 k).2.2.1 = some (tyX4 k) := by decide +kernel
abbrev cX4_init : ByteArray := prog_6_method_1_code
def yX4_init : MethodName := ⟨RX4, "<init>", "()V"⟩
abbrev cX4_isUsed : ByteArray := prog_6_method_2_code
def yX4_isUsed : MethodName := ⟨RX4, "isUsed", "(I)Z"⟩
abbrev cX4_ofField : ByteArray := prog_6_method_3_code
def yX4_ofField : MethodName := ⟨RX4, "ofField", "(I)I"⟩
abbrev cX4_find : ByteArray := prog_6_method_4_code
def yX4_find : MethodName := ⟨RX4, "find", "([LDeadCode$Code;[ZLDeadCode$Facts;)V"⟩
abbrev cX4_nextToVisit : ByteArray := prog_6_method_5_code
def yX4_nextToVisit : MethodName := ⟨RX4, "nextToVisit", "()I"⟩
abbrev cX4_noteReached : ByteArray := prog_6_method_6_code
def yX4_noteReached : MethodName := ⟨RX4, "noteReached", "(LDeadCode$Code;LDeadCode$Facts;)V"⟩
abbrev cX4_note : ByteArray := prog_6_method_7_code
def yX4_note : MethodName := ⟨RX4, "note", "(II)V"⟩
def RX5 : String := "DeadCode"
def TX5 : u_T := fun k => match k with
  | 0 => ("DeadCode", "program", "[LDeadCode$Code;", true)
  | 1 => ("DeadCode", "second", "[LDeadCode$Code;", true)
  | 2 => ("DeadCode", "roots", "[Z", true)
  | 3 => ("DeadCode", "facts", "LDeadCode$Facts;", true)
  | 4 => ("DeadCode", "usage", "LDeadCode$Usage;", true)
  | 5 => ("DeadCode", "shrinker", "LDeadCode$Shrinker;", true)
  | 6 => ("DeadCode", "runner", "LDeadCode$Runner;", true)
  | _ => ("DeadCode", "hasTrial", "Z", false)
def tyX5 : Nat → FieldType := fun k => match k with
  | 0 => .array (.object "DeadCode$Code")
  | 1 => .array (.object "DeadCode$Code")
  | 2 => .array .boolean
  | 3 => .object "DeadCode$Facts"
  | 4 => .object "DeadCode$Usage"
  | 5 => .object "DeadCode$Shrinker"
  | 6 => .object "DeadCode$Runner"
  | _ => .boolean
theorem nmX5 : ∀ a, a < 8 → ∀ b, b < 8 → a ≠ b → (TX5 a).2.1 ≠ (TX5 b).2.1 := by decide +kernel
theorem tyX5_ok : ∀ k, k < 8 → parseFieldDescriptor (TX5 k).2.2.1 = some (tyX5 k) := by decide +kernel
abbrev cX5_init : ByteArray := prog_1_method_1_code
def yX5_init : MethodName := ⟨RX5, "<init>", "()V"⟩
abbrev cX5_put : ByteArray := prog_1_method_2_code
def yX5_put : MethodName := ⟨RX5, "put", "(IIIII)I"⟩
abbrev cX5_cut : ByteArray := prog_1_method_3_code
def yX5_cut : MethodName := ⟨RX5, "cut", "(I)I"⟩
abbrev cX5_root : ByteArray := prog_1_method_4_code
def yX5_root : MethodName := ⟨RX5, "root", "(IZ)I"⟩
abbrev cX5_trial : ByteArray := prog_1_method_5_code
def yX5_trial : MethodName := ⟨RX5, "trial", "()I"⟩
abbrev cX5_run : ByteArray := prog_1_method_6_code
def yX5_run : MethodName := ⟨RX5, "run", "(IIII)I"⟩
abbrev cX5_told : ByteArray := prog_1_method_7_code
def yX5_told : MethodName := ⟨RX5, "told", "(I)J"⟩
abbrev cX5_said : ByteArray := prog_1_method_8_code
def yX5_said : MethodName := ⟨RX5, "said", "(I)I"⟩
abbrev cX5_marks : ByteArray := prog_1_method_9_code
def yX5_marks : MethodName := ⟨RX5, "marks", "(II)I"⟩
abbrev cX5_known : ByteArray := prog_1_method_10_code
def yX5_known : MethodName := ⟨RX5, "known", "(III)J"⟩
abbrev cX5_read : ByteArray := prog_1_method_11_code
def yX5_read : MethodName := ⟨RX5, "read", "(III)I"⟩
abbrev cX5_used : ByteArray := prog_1_method_12_code
def yX5_used : MethodName := ⟨RX5, "used", "(I)I"⟩
abbrev cX5_field : ByteArray := prog_1_method_13_code
def yX5_field : MethodName := ⟨RX5, "field", "(I)I"⟩
abbrev cX5_doubled : ByteArray := prog_1_method_14_code
def yX5_doubled : MethodName := ⟨RX5, "doubled", "(I)I"⟩
abbrev cX5_size : ByteArray := prog_1_method_15_code
def yX5_size : MethodName := ⟨RX5, "size", "(II)I"⟩
abbrev cX5_part : ByteArray := prog_1_method_16_code
def yX5_part : MethodName := ⟨RX5, "part", "(IIII)J"⟩
abbrev cX5_clear : ByteArray := prog_1_method_17_code
def yX5_clear : MethodName := ⟨RX5, "clear", "()I"⟩
abbrev cX5_refusal : ByteArray := prog_1_method_18_code
def yX5_refusal : MethodName := ⟨RX5, "refusal", "(II)I"⟩
abbrev cX5_programOf : ByteArray := prog_1_method_19_code
def yX5_programOf : MethodName := ⟨RX5, "programOf", "(I)[LDeadCode$Code;"⟩
abbrev cX5_isInstruction : ByteArray := prog_1_method_20_code
def yX5_isInstruction : MethodName := ⟨RX5, "isInstruction", "(II)Z"⟩
abbrev cX5_isMember : ByteArray := prog_1_method_21_code
def yX5_isMember : MethodName := ⟨RX5, "isMember", "(I)Z"⟩
abbrev cX5_isRegister : ByteArray := prog_1_method_22_code
def yX5_isRegister : MethodName := ⟨RX5, "isRegister", "(I)Z"⟩
abbrev cX5_isField : ByteArray := prog_1_method_23_code
def yX5_isField : MethodName := ⟨RX5, "isField", "(I)Z"⟩
abbrev cX5_shapeOf : ByteArray := prog_1_method_24_code
def yX5_shapeOf : MethodName := ⟨RX5, "shapeOf", "(II)I"⟩
abbrev cX5_isThere : ByteArray := prog_1_method_25_code
def yX5_isThere : MethodName := ⟨RX5, "isThere", "(III)Z"⟩
abbrev cX5_isWithin : ByteArray := prog_1_method_26_code
def yX5_isWithin : MethodName := ⟨RX5, "isWithin", "(III)Z"⟩
abbrev cX5_together : ByteArray := prog_1_method_27_code
def yX5_together : MethodName := ⟨RX5, "together", "(III)I"⟩
def RX6 : String := "DeadCodeModel"
def TX6 : u_T := fun k => match k with
  | 0 => ("DeadCodeModel", "kinds", "[I", true)
  | 1 => ("DeadCodeModel", "firsts", "[I", true)
  | 2 => ("DeadCodeModel", "seconds", "[I", true)
  | 3 => ("DeadCodeModel", "thirds", "[I", true)
  | 4 => ("DeadCodeModel", "sizes", "[I", true)
  | 5 => ("DeadCodeModel", "roots", "[Z", true)
  | 6 => ("DeadCodeModel", "hasTrial", "Z", false)
  | 7 => ("DeadCodeModel", "size", "I", false)
  | 8 => ("DeadCodeModel", "from", "I", false)
  | 9 => ("DeadCodeModel", "reached", "[Z", true)
  | 10 => ("DeadCodeModel", "known", "[J", true)
  | 11 => ("DeadCodeModel", "changed", "Z", false)
  | 12 => ("DeadCodeModel", "now", "[J", true)
  | 13 => ("DeadCodeModel", "behind", "[I", true)
  | 14 => ("DeadCodeModel", "ahead", "[I", true)
  | 15 => ("DeadCodeModel", "used", "I", false)
  | 16 => ("DeadCodeModel", "stays", "[Z", true)
  | 17 => ("DeadCodeModel", "isGo", "[Z", true)
  | 18 => ("DeadCodeModel", "fields", "[I", true)
  | 19 => ("DeadCodeModel", "saidRow", "[I", true)
  | 20 => ("DeadCodeModel", "saidMany", "I", false)
  | 21 => ("DeadCodeModel", "done", "I", false)
  | 22 => ("DeadCodeModel", "given", "I", false)
  | 23 => ("DeadCodeModel", "depth", "I", false)
  | 24 => ("DeadCodeModel", "end", "I", false)
  | 25 => ("DeadCodeModel", "memberOf", "[I", true)
  | 26 => ("DeadCodeModel", "placeOf", "[I", true)
  | 27 => ("DeadCodeModel", "goesTo", "[I", true)
  | _ => ("DeadCodeModel", "registers", "[I", true)
def tyX6 : Nat → FieldType := fun k => match k with
  | 0 => .array .int
  | 1 => .array .int
  | 2 => .array .int
  | 3 => .array .int
  | 4 => .array .int
  | 5 => .array .boolean
  | 6 => .boolean
  | 7 => .int
  | 8 => .int
  | 9 => .array .boolean
  | 10 => .array .long
  | 11 => .boolean
  | 12 => .array .long
  | 13 => .array .int
  | 14 => .array .int
  | 15 => .int
  | 16 => .array .boolean
  | 17 => .array .boolean
  | 18 => .array .int
  | 19 => .array .int
  | 20 => .int
  | 21 => .int
  | 22 => .int
  | 23 => .int
  | 24 => .int
  | 25 => .array .int
  | 26 => .array .int
  | 27 => .array .int
  | _ => .array .int
theorem nmX6 : ∀ a, a < 29 → ∀ b, b < 29 → a ≠ b → (TX6 a).2.1 ≠ (TX6 b).2.1 := by decide +kernel
theorem tyX6_ok : ∀ k, k < 29 → parseFieldDescriptor (TX6 k).2.2.1 = some (tyX6 k) := by decide +kernel
abbrev cX6_init : ByteArray := prog_8_method_1_code
def yX6_init : MethodName := ⟨RX6, "<init>", "()V"⟩
abbrev cX6_in : ByteArray := prog_8_method_3_code
def yX6_in : MethodName := ⟨RX6, "in", "(III)Z"⟩
abbrev cX6_isMember : ByteArray := prog_8_method_4_code
def yX6_isMember : MethodName := ⟨RX6, "isMember", "(I)Z"⟩
abbrev cX6_isRegister : ByteArray := prog_8_method_5_code
def yX6_isRegister : MethodName := ⟨RX6, "isRegister", "(I)Z"⟩
abbrev cX6_at : ByteArray := prog_8_method_6_code
def yX6_at : MethodName := ⟨RX6, "at", "(III)I"⟩
abbrev cX6_named : ByteArray := prog_8_method_7_code
def yX6_named : MethodName := ⟨RX6, "named", "(I)I"⟩
abbrev cX6_nameOf : ByteArray := prog_8_method_8_code
def yX6_nameOf : MethodName := ⟨RX6, "nameOf", "(II)I"⟩
abbrev cX6_isThere : ByteArray := prog_8_method_9_code
def yX6_isThere : MethodName := ⟨RX6, "isThere", "(II)Z"⟩
abbrev cX6_isOutside : ByteArray := prog_8_method_10_code
def yX6_isOutside : MethodName := ⟨RX6, "isOutside", "(II)Z"⟩
abbrev cX6_put : ByteArray := prog_8_method_11_code
def yX6_put : MethodName := ⟨RX6, "put", "(IIIII)I"⟩
abbrev cX6_cut : ByteArray := prog_8_method_12_code
def yX6_cut : MethodName := ⟨RX6, "cut", "(I)I"⟩
abbrev cX6_root : ByteArray := prog_8_method_13_code
def yX6_root : MethodName := ⟨RX6, "root", "(IZ)I"⟩
abbrev cX6_brings : ByteArray := prog_8_method_14_code
def yX6_brings : MethodName := ⟨RX6, "brings", "(I)V"⟩
abbrev cX6_made : ByteArray := prog_8_method_15_code
def yX6_made : MethodName := ⟨RX6, "made", "(IJJ)J"⟩
abbrev cX6_taken : ByteArray := prog_8_method_16_code
def yX6_taken : MethodName := ⟨RX6, "taken", "(I)I"⟩
abbrev cX6_goesOn : ByteArray := prog_8_method_17_code
def yX6_goesOn : MethodName := ⟨RX6, "goesOn", "(I)Z"⟩
abbrev cX6_jumps : ByteArray := prog_8_method_18_code
def yX6_jumps : MethodName := ⟨RX6, "jumps", "(I)Z"⟩
abbrev cX6_goal : ByteArray := prog_8_method_19_code
def yX6_goal : MethodName := ⟨RX6, "goal", "(I)I"⟩
abbrev cX6_goOn : ByteArray := prog_8_method_20_code
def yX6_goOn : MethodName := ⟨RX6, "goOn", "(I)V"⟩
abbrev cX6_know : ByteArray := prog_8_method_21_code
def yX6_know : MethodName := ⟨RX6, "know", "(II)V"⟩
abbrev cX6_readsOf : ByteArray := prog_8_method_22_code
def yX6_readsOf : MethodName := ⟨RX6, "readsOf", "(I)I"⟩
abbrev cX6_sets : ByteArray := prog_8_method_23_code
def yX6_sets : MethodName := ⟨RX6, "sets", "(I)Z"⟩
abbrev cX6_find : ByteArray := prog_8_method_24_code
def yX6_find : MethodName := ⟨RX6, "find", "(II)V"⟩
abbrev cX6_isIdle : ByteArray := prog_8_method_25_code
def yX6_isIdle : MethodName := ⟨RX6, "isIdle", "(I)Z"⟩
abbrev cX6_marksOf : ByteArray := prog_8_method_26_code
def yX6_marksOf : MethodName := ⟨RX6, "marksOf", "(I)I"⟩
abbrev cX6_isPlace : ByteArray := prog_8_method_27_code
def yX6_isPlace : MethodName := ⟨RX6, "isPlace", "(II)Z"⟩
abbrev cX6_marks : ByteArray := prog_8_method_28_code
def yX6_marks : MethodName := ⟨RX6, "marks", "(II)I"⟩
abbrev cX6_known : ByteArray := prog_8_method_29_code
def yX6_known : MethodName := ⟨RX6, "known", "(III)J"⟩
abbrev cX6_read : ByteArray := prog_8_method_30_code
def yX6_read : MethodName := ⟨RX6, "read", "(III)I"⟩
abbrev cX6_findUsed : ByteArray := prog_8_method_31_code
def yX6_findUsed : MethodName := ⟨RX6, "findUsed", "()V"⟩
abbrev cX6_used : ByteArray := prog_8_method_32_code
def yX6_used : MethodName := ⟨RX6, "used", "(I)I"⟩
abbrev cX6_field : ByteArray := prog_8_method_33_code
def yX6_field : MethodName := ⟨RX6, "field", "(I)I"⟩
abbrev cX6_namedBy : ByteArray := prog_8_method_34_code
def yX6_namedBy : MethodName := ⟨RX6, "namedBy", "(II)I"⟩
abbrev cX6_firstOf : ByteArray := prog_8_method_35_code
def yX6_firstOf : MethodName := ⟨RX6, "firstOf", "(I)I"⟩
abbrev cX6_renamed : ByteArray := prog_8_method_36_code
def yX6_renamed : MethodName := ⟨RX6, "renamed", "(II)I"⟩
abbrev cX6_isLike : ByteArray := prog_8_method_37_code
def yX6_isLike : MethodName := ⟨RX6, "isLike", "(II)Z"⟩
abbrev cX6_doubled : ByteArray := prog_8_method_38_code
def yX6_doubled : MethodName := ⟨RX6, "doubled", "(I)I"⟩
abbrev cX6_staying : ByteArray := prog_8_method_39_code
def yX6_staying : MethodName := ⟨RX6, "staying", "(I)I"⟩
abbrev cX6_isLessened : ByteArray := prog_8_method_40_code
def yX6_isLessened : MethodName := ⟨RX6, "isLessened", "(I)Z"⟩
abbrev cX6_trial : ByteArray := prog_8_method_41_code
def yX6_trial : MethodName := ⟨RX6, "trial", "()I"⟩
abbrev cX6_begins : ByteArray := prog_8_method_42_code
def yX6_begins : MethodName := ⟨RX6, "begins", "(IIII)V"⟩
abbrev cX6_gives : ByteArray := prog_8_method_43_code
def yX6_gives : MethodName := ⟨RX6, "gives", "(I)V"⟩
abbrev cX6_does : ByteArray := prog_8_method_44_code
def yX6_does : MethodName := ⟨RX6, "does", "(I)V"⟩
abbrev cX6_run : ByteArray := prog_8_method_45_code
def yX6_run : MethodName := ⟨RX6, "run", "(IIII)I"⟩
abbrev cX6_told : ByteArray := prog_8_method_46_code
def yX6_told : MethodName := ⟨RX6, "told", "(I)J"⟩
abbrev cX6_said : ByteArray := prog_8_method_47_code
def yX6_said : MethodName := ⟨RX6, "said", "(I)I"⟩
abbrev cX6_size : ByteArray := prog_8_method_48_code
def yX6_size : MethodName := ⟨RX6, "size", "(II)I"⟩
abbrev cX6_part : ByteArray := prog_8_method_49_code
def yX6_part : MethodName := ⟨RX6, "part", "(IIII)J"⟩
abbrev cX6_clear : ByteArray := prog_8_method_50_code
def yX6_clear : MethodName := ⟨RX6, "clear", "()I"⟩
def RJ10 : String := "java/lang/System"
def TJ10 : u_T := fun k => match k with
  | _ => ("", "", "", false)
def tyJ10 : Nat → FieldType := fun k => match k with
  | _ => .int
def RL : String := "DeadCodeLaw"
abbrev cL_law : ByteArray := code
def yL_law : MethodName := ⟨RL, "law", "([I)Z"⟩
abbrev vwCl : List vw_C := [(RX0, TX0, 2), (RX1, TX1, 3), (RX2, TX2, 10), (RX3, TX3, 1), (RX4, TX4, 3), (RX5, TX5, 8), (RX6, TX6, 29)]
end
section
abbrev ai_N : Type := ClassFile.Instr × Nat × Nat × List Bool
abbrev ai_R : Type := Nat × MethodName × ByteArray × Nat × Option FieldType × Nat × List (List (Option ai_N))
def ai_d0 : List (List (Option ai_N)) := [[some (.aload_n 0, 0, 0, []), some (.invokespecial 3, 9, 0, []), none, none, some (.aload_n 0, 0, 0, []), some (.bipush 96, 0, 0, []), none, some (.newarray .int, 0, 0, []), none, some (.putfield 9, 0, 0, []), none, none, some (.return_, 0, 0, [])]]
def ai_d1 : List (List (Option ai_N)) := [[some (.aload_n 0, 0, 0, []), some (.getfield 15, 0, 1, []), none, none, some (.ireturn, 0, 0, [])]]
def ai_d2 : List (List (Option ai_N)) := [[some (.iload_n 1, 0, 0, []), some (.ifCond .lt 15, 0, 0, []), none, none, some (.iload_n 1, 0, 0, [true, true]), some (.aload_n 0, 0, 0, []), some (.getfield 15, 0, 1, []), none, none, some (.if_icmp .ge 7, 0, 0, []), none, none, some (.iconst 1, 0, 0, [false, false]), some (.goto 4, 0, 0, []), none, none],
  [some (.iconst 0, 0, 0, [false, false]), some (.ireturn, 0, 0, [false, false])]]
def ai_d3 : List (List (Option ai_N)) := [[some (.aload_n 0, 0, 0, []), some (.getfield 15, 0, 1, []), none, none, some (.bipush 24, 0, 0, []), none, some (.if_icmp .lt 7, 0, 0, []), none, none, some (.iconst 1, 0, 0, [false]), some (.goto 4, 0, 0, []), none, none, some (.iconst 0, 0, 0, [false]), some (.ireturn, 0, 0, [false])]]
def ai_d4 : List (List (Option ai_N)) := [[some (.aload_n 0, 0, 0, []), some (.getfield 9, 0, 0, []), none, none, some (.iload_n 1, 0, 0, []), some (.iconst 4, 0, 0, []), some (.imul, 0, 0, []), some (.iload_n 2, 0, 0, []), some (.iadd, 0, 0, []), some (.iaload, 0, 0, []), some (.ireturn, 0, 0, [])]]
def ai_d5 : List (List (Option ai_N)) := [[some (.aload_n 0, 0, 0, []), some (.getfield 15, 0, 1, []), none, none, some (.istore 5, 0, 0, []), none, some (.aload_n 0, 0, 0, []), some (.dup, 0, 0, []), some (.getfield 15, 0, 1, []), none, none, some (.iconst 1, 0, 0, []), some (.iadd, 0, 0, []), some (.putfield 15, 0, 1, []), none, none],
  [some (.aload_n 0, 0, 0, []), some (.iload 5, 0, 0, []), none, some (.iload_n 1, 0, 0, []), some (.iload_n 2, 0, 0, []), some (.iload_n 3, 0, 0, []), some (.iload 4, 0, 0, []), none, some (.invokevirtual 19, 0, 6, []), none, none, some (.iload 5, 0, 0, []), none, some (.ireturn, 0, 0, [])]]
def ai_d6 : List (List (Option ai_N)) := [[some (.iload_n 1, 0, 0, []), some (.iconst 4, 0, 0, []), some (.imul, 0, 0, []), some (.istore 6, 0, 0, []), none, some (.aload_n 0, 0, 0, []), some (.getfield 9, 0, 0, []), none, none, some (.iload 6, 0, 0, []), none, some (.iconst 0, 0, 0, []), some (.iadd, 0, 0, []), some (.iload_n 2, 0, 0, []), some (.iastore, 0, 0, []), some (.aload_n 0, 0, 0, [])],
  [some (.getfield 9, 0, 0, []), none, none, some (.iload 6, 0, 0, []), none, some (.iconst 1, 0, 0, []), some (.iadd, 0, 0, []), some (.iload_n 2, 0, 0, []), some (.iconst 1, 0, 0, []), some (.invokestatic 23, 4, 90, []), none, none, some (.ifCond .ne 7, 0, 0, []), none, none, some (.iconst 0, 0, 0, [true, false, true, false, true, true, true])],
  [some (.goto 4, 0, 0, []), none, none, some (.iload_n 3, 0, 0, [true, false, true, true, true, true, true]), some (.iastore, 0, 0, [true, false, true, false, true, true, true]), some (.aload_n 0, 0, 0, []), some (.getfield 9, 0, 0, []), none, none, some (.iload 6, 0, 0, []), none, some (.iconst 2, 0, 0, []), some (.iadd, 0, 0, []), some (.iload_n 2, 0, 0, []), some (.iconst 2, 0, 0, []), some (.invokestatic 23, 4, 90, [])],
  [none, none, some (.ifCond .ne 7, 0, 0, []), none, none, some (.iconst 0, 0, 0, [true, false, true, false, false, true, true]), some (.goto 5, 0, 0, []), none, none, some (.iload 4, 0, 0, [true, false, true, false, true, true, true]), none, some (.iastore, 0, 0, [true, false, true, false, false, true, true]), some (.aload_n 0, 0, 0, []), some (.getfield 9, 0, 0, []), none, none],
  [some (.iload 6, 0, 0, []), none, some (.iconst 3, 0, 0, []), some (.iadd, 0, 0, []), some (.iload_n 2, 0, 0, []), some (.iconst 3, 0, 0, []), some (.invokestatic 23, 4, 90, []), none, none, some (.ifCond .ne 7, 0, 0, []), none, none, some (.iconst 0, 0, 0, [false, false, false, false, false, false, false]), some (.goto 5, 0, 0, []), none, none],
  [some (.iload 5, 0, 0, [false, false, false, false, false, true, false]), none, some (.iastore, 0, 0, [false, false, false, false, false, false, false]), some (.return_, 0, 0, [])]]
def ai_d7 : List (List (Option ai_N)) := [[some (.aload_n 0, 0, 0, []), some (.iconst 0, 0, 0, []), some (.invokevirtual 27, 0, 8, []), none, none, some (.ireturn, 0, 0, [])]]
def ai_d8 : List (List (Option ai_N)) := [[some (.aload_n 0, 0, 0, []), some (.getfield 15, 0, 1, []), none, none, some (.istore_n 2, 0, 0, []), some (.aload_n 0, 0, 0, []), some (.iload_n 1, 0, 0, []), some (.putfield 15, 0, 1, []), none, none, some (.iload_n 2, 0, 0, []), some (.ireturn, 0, 0, [])]]
def ai_d9 : List (List (Option ai_N)) := [[some (.aload_n 1, 0, 0, []), some (.getfield 9, 0, 0, []), none, none, some (.iconst 0, 0, 0, []), some (.aload_n 0, 0, 0, []), some (.getfield 9, 0, 0, []), none, none, some (.iconst 0, 0, 0, []), some (.aload_n 0, 0, 0, []), some (.getfield 9, 0, 0, []), none, none, some (.arraylength, 0, 0, []), some (.invokestatic 31, 8, 0, [])],
  [none, none, some (.aload_n 0, 0, 0, []), some (.aload_n 1, 0, 0, []), some (.getfield 15, 0, 1, []), none, none, some (.putfield 15, 0, 1, []), none, none, some (.return_, 0, 0, [])]]
def ai_d10 : List (List (Option ai_N)) := [[some (.iconst 1, 0, 0, []), some (.aload_n 0, 0, 0, []), some (.iload_n 1, 0, 0, []), some (.iconst 1, 0, 0, []), some (.invokevirtual 37, 0, 4, []), none, none, some (.ishl, 0, 0, []), some (.istore_n 2, 0, 0, []), some (.aload_n 0, 0, 0, []), some (.iload_n 1, 0, 0, []), some (.iconst 0, 0, 0, []), some (.invokevirtual 37, 0, 4, []), none, none, some (.tableswitch 103 1 12 #[61, 70, 70, 70, 88, 103, 103, 101, 99, 101, 101, 101], 0, 0, [])],
  [none, none, none, none, none, none, none, none, none, none, none, none, none, none, none, none],
  [none, none, none, none, none, none, none, none, none, none, none, none, none, none, none, none],
  [none, none, none, none, none, none, none, none, none, none, none, none, none, none, none, none],
  [none, none, none, none, none, none, none, none, none, none, none, none, some (.iconst 1, 0, 0, [true, true, false]), some (.aload_n 0, 0, 0, []), some (.iload_n 1, 0, 0, []), some (.iconst 2, 0, 0, [])],
  [some (.invokevirtual 37, 0, 4, []), none, none, some (.ishl, 0, 0, []), some (.ireturn, 0, 0, []), some (.iconst 1, 0, 0, [true, true, false]), some (.aload_n 0, 0, 0, []), some (.iload_n 1, 0, 0, []), some (.iconst 2, 0, 0, []), some (.invokevirtual 37, 0, 4, []), none, none, some (.ishl, 0, 0, []), some (.iconst 1, 0, 0, []), some (.aload_n 0, 0, 0, []), some (.iload_n 1, 0, 0, [])],
  [some (.iconst 3, 0, 0, []), some (.invokevirtual 37, 0, 4, []), none, none, some (.ishl, 0, 0, []), some (.ior, 0, 0, []), some (.ireturn, 0, 0, []), some (.iload_n 2, 0, 0, [true, true, true]), some (.iconst 1, 0, 0, []), some (.aload_n 0, 0, 0, []), some (.iload_n 1, 0, 0, []), some (.iconst 2, 0, 0, []), some (.invokevirtual 37, 0, 4, []), none, none, some (.ishl, 0, 0, [])],
  [some (.ior, 0, 0, []), some (.ireturn, 0, 0, []), some (.iconst 3, 0, 0, [false, false, false]), some (.ireturn, 0, 0, []), some (.iload_n 2, 0, 0, [false, false, true]), some (.ireturn, 0, 0, []), some (.iconst 0, 0, 0, [false, false, false]), some (.ireturn, 0, 0, [])]]
def ai_d11 : List (List (Option ai_N)) := [[some (.aload_n 0, 0, 0, []), some (.iload_n 1, 0, 0, []), some (.iconst 0, 0, 0, []), some (.invokevirtual 37, 0, 4, []), none, none, some (.tableswitch 63 0 9 #[54, 54, 54, 54, 54, 63, 63, 54, 63, 54], 0, 0, []), none, none, none, none, none, none, none, none, none],
  [none, none, none, none, none, none, none, none, none, none, none, none, none, none, none, none],
  [none, none, none, none, none, none, none, none, none, none, none, none, none, none, none, none],
  [none, none, none, none, none, none, none, none, none, none, none, none, some (.iconst 1, 0, 0, [true, true]), some (.aload_n 0, 0, 0, []), some (.iload_n 1, 0, 0, []), some (.iconst 1, 0, 0, [])],
  [some (.invokevirtual 37, 0, 4, []), none, none, some (.ishl, 0, 0, []), some (.ireturn, 0, 0, []), some (.iconst 0, 0, 0, [false, false]), some (.ireturn, 0, 0, [])]]
def ai_d12 : List (List (Option ai_N)) := [[some (.aload_n 0, 0, 0, []), some (.getfield 15, 0, 1, []), none, none, some (.aload_n 1, 0, 0, []), some (.getfield 15, 0, 1, []), none, none, some (.if_icmp .eq 5, 0, 0, []), none, none, some (.iconst 0, 0, 0, [false, false, false, false]), some (.ireturn, 0, 0, []), some (.aload_n 0, 0, 0, [true, true, false, false]), some (.invokevirtual 40, 0, 14, []), none],
  [none, some (.aload_n 1, 0, 0, []), some (.invokevirtual 40, 0, 14, []), none, none, some (.if_icmp .eq 7, 0, 0, []), none, none, some (.iconst 1, 0, 0, [true, true, false, false]), some (.goto 4, 0, 0, []), none, none, some (.iconst 0, 0, 0, [true, true, false, false]), some (.istore_n 2, 0, 0, [true, true, false, false]), some (.iconst 0, 0, 0, []), some (.istore_n 3, 0, 0, [])],
  [some (.iload_n 3, 0, 0, [true, true, true, true]), some (.aload_n 0, 0, 0, []), some (.getfield 15, 0, 1, []), none, none, some (.if_icmp .ge 36, 0, 0, []), none, none, some (.aload_n 0, 0, 0, [true, true, true, true]), some (.iload_n 3, 0, 0, []), some (.iconst 0, 0, 0, []), some (.invokevirtual 37, 0, 4, []), none, none, some (.aload_n 1, 0, 0, []), some (.iload_n 3, 0, 0, [])],
  [some (.iconst 0, 0, 0, []), some (.invokevirtual 37, 0, 4, []), none, none, some (.if_icmp .ne 13, 0, 0, []), none, none, some (.aload_n 0, 0, 0, [true, true, true, true]), some (.aload_n 1, 0, 0, []), some (.iload_n 3, 0, 0, []), some (.iload_n 2, 0, 0, []), some (.invokevirtual 44, 0, 13, []), none, none, some (.ifCond .ne 5, 0, 0, []), none],
  [none, some (.iconst 0, 0, 0, [false, false, false, false]), some (.ireturn, 0, 0, []), some (.iinc 3 1, 0, 0, [true, true, true, true]), none, none, some (.goto (-38), 0, 0, []), none, none, some (.iconst 1, 0, 0, [false, false, false, false]), some (.ireturn, 0, 0, [])]]
def ai_d13 : List (List (Option ai_N)) := [[some (.iconst 1, 0, 0, []), some (.istore 4, 0, 0, []), none, some (.iload 4, 0, 0, [true, true, true, true, true, false, false]), none, some (.iconst 3, 0, 0, []), some (.if_icmp .gt 76, 0, 0, []), none, none, some (.aload_n 0, 0, 0, [true, true, true, true, true, false, false]), some (.iload_n 2, 0, 0, []), some (.iload 4, 0, 0, []), none, some (.invokevirtual 37, 0, 4, []), none, none],
  [some (.istore 5, 0, 0, []), none, some (.iload_n 3, 0, 0, []), some (.ifCond .eq 28, 0, 0, []), none, none, some (.iload 5, 0, 0, [true, true, true, true, true, true, false]), none, some (.iconst 2, 0, 0, []), some (.if_icmp .lt 22, 0, 0, []), none, none, some (.aload_n 0, 0, 0, [true, true, true, true, true, true, false]), some (.iload_n 2, 0, 0, []), some (.iconst 0, 0, 0, []), some (.invokevirtual 37, 0, 4, [])],
  [none, none, some (.iload 4, 0, 0, []), none, some (.invokestatic 23, 4, 90, []), none, none, some (.iconst 2, 0, 0, []), some (.if_icmp .ne 7, 0, 0, []), none, none, some (.iconst 1, 0, 0, [true, true, true, true, true, true, false]), some (.goto 4, 0, 0, []), none, none, some (.iconst 0, 0, 0, [true, true, true, true, true, true, false])],
  [some (.istore 6, 0, 0, [true, true, true, true, true, true, false]), none, some (.iload 6, 0, 0, []), none, some (.ifCond .eq 10, 0, 0, []), none, none, some (.iconst 5, 0, 0, [true, true, true, true, true, true, false]), some (.iload 5, 0, 0, []), none, some (.isub, 0, 0, []), some (.goto 5, 0, 0, []), none, none, some (.iload 5, 0, 0, [true, true, true, true, true, true, false]), none],
  [some (.aload_n 1, 0, 0, [true, true, true, true, true, false, false]), some (.iload_n 2, 0, 0, []), some (.iload 4, 0, 0, []), none, some (.invokevirtual 37, 0, 4, []), none, none, some (.if_icmp .eq 5, 0, 0, []), none, none, some (.iconst 0, 0, 0, [false, false, false, false, false, false, false]), some (.ireturn, 0, 0, []), some (.iinc 4 1, 0, 0, [true, true, true, true, true, false, false]), none, none, some (.goto (-76), 0, 0, [])],
  [none, none, some (.iconst 1, 0, 0, [false, false, false, false, false, false, false]), some (.ireturn, 0, 0, [])]]
def ai_d14 : List (List (Option ai_N)) := [[some (.iconst 0, 0, 0, []), some (.istore_n 1, 0, 0, []), some (.iload_n 1, 0, 0, [true, true, false]), some (.aload_n 0, 0, 0, []), some (.getfield 15, 0, 1, []), none, none, some (.if_icmp .ge 62, 0, 0, []), none, none, some (.iconst 1, 0, 0, [true, true, false]), some (.istore_n 2, 0, 0, []), some (.iload_n 2, 0, 0, [true, true, true]), some (.iconst 3, 0, 0, []), some (.if_icmp .gt 49, 0, 0, []), none],
  [none, some (.aload_n 0, 0, 0, [true, true, true]), some (.iload_n 1, 0, 0, []), some (.iconst 0, 0, 0, []), some (.invokevirtual 37, 0, 4, []), none, none, some (.iload_n 2, 0, 0, []), some (.invokestatic 23, 4, 90, []), none, none, some (.iconst 2, 0, 0, []), some (.if_icmp .ne 29, 0, 0, []), none, none, some (.aload_n 0, 0, 0, [true, true, true])],
  [some (.iload_n 1, 0, 0, []), some (.iload_n 2, 0, 0, []), some (.invokevirtual 37, 0, 4, []), none, none, some (.iconst 2, 0, 0, []), some (.if_icmp .lt 19, 0, 0, []), none, none, some (.aload_n 0, 0, 0, [true, true, true]), some (.iload_n 1, 0, 0, []), some (.iload_n 2, 0, 0, []), some (.invokevirtual 37, 0, 4, []), none, none, some (.iconst 3, 0, 0, [])],
  [some (.if_icmp .ne 7, 0, 0, []), none, none, some (.iconst 1, 0, 0, [false, false, false]), some (.goto 4, 0, 0, []), none, none, some (.iconst 0, 0, 0, [false, false, false]), some (.ireturn, 0, 0, [false, false, false]), some (.iinc 2 1, 0, 0, [true, true, true]), none, none, some (.goto (-48), 0, 0, []), none, none, some (.iinc 1 1, 0, 0, [true, true, false])],
  [none, none, some (.goto (-64), 0, 0, []), none, none, some (.iconst 0, 0, 0, [false, false, false]), some (.ireturn, 0, 0, [])]]
def ai_d15 : List (List (Option ai_N)) := [[some (.aload_n 0, 0, 0, []), some (.invokespecial 3, 9, 0, []), none, none, some (.aload_n 0, 0, 0, []), some (.bipush 96, 0, 0, []), none, some (.newarray .long, 0, 0, []), none, some (.putfield 9, 1, 0, []), none, none, some (.aload_n 0, 0, 0, []), some (.bipush 24, 0, 0, []), none, some (.newarray .int, 0, 0, [])],
  [none, some (.putfield 15, 1, 1, []), none, none, some (.aload_n 0, 0, 0, []), some (.iconst 4, 0, 0, []), some (.newarray .long, 0, 0, []), none, some (.putfield 19, 1, 2, []), none, none, some (.return_, 0, 0, [])]]
def ai_d16 : List (List (Option ai_N)) := [[some (.aload_n 0, 0, 0, []), some (.iload_n 1, 0, 0, []), some (.iconst 0, 0, 0, []), some (.invokevirtual 22, 0, 17, []), none, none, some (.ldc2_w 26, 2000000000000, 0, []), none, none, some (.lcmp, 0, 0, []), some (.ifCond .eq 7, 0, 0, []), none, none, some (.iconst 1, 0, 0, [false, false]), some (.goto 4, 0, 0, []), none],
  [none, some (.iconst 0, 0, 0, [false, false]), some (.ireturn, 0, 0, [false, false])]]
def ai_d17 : List (List (Option ai_N)) := [[some (.aload_n 0, 0, 0, []), some (.getfield 9, 1, 0, []), none, none, some (.iload_n 1, 0, 0, []), some (.iconst 4, 0, 0, []), some (.imul, 0, 0, []), some (.iload_n 2, 0, 0, []), some (.iadd, 0, 0, []), some (.laload, 0, 0, []), some (.lreturn, 0, 0, [])]]
def ai_d18 : List (List (Option ai_N)) := [[some (.aload_n 0, 0, 0, []), some (.getfield 15, 1, 1, []), none, none, some (.iload_n 1, 0, 0, []), some (.iaload, 0, 0, []), some (.iconst 1, 0, 0, []), some (.iload_n 2, 0, 0, []), some (.ishl, 0, 0, []), some (.iand, 0, 0, []), some (.ifCond .eq 7, 0, 0, []), none, none, some (.iconst 1, 0, 0, [false, false, false]), some (.goto 4, 0, 0, []), none],
  [none, some (.iconst 0, 0, 0, [false, false, false]), some (.ireturn, 0, 0, [false, false, false])]]
def ai_d19 : List (List (Option ai_N)) := [[some (.aload_n 0, 0, 0, []), some (.iload_n 2, 0, 0, []), some (.invokevirtual 28, 0, 16, []), none, none, some (.ifCond .ne 5, 0, 0, []), none, none, some (.iconst 0, 0, 0, [false, false, false]), some (.ireturn, 0, 0, []), some (.aload_n 1, 0, 0, [true, true, true]), some (.iload_n 2, 0, 0, []), some (.iconst 0, 0, 0, []), some (.invokevirtual 32, 0, 4, []), none, none],
  [some (.tableswitch 116 0 11 #[89, 89, 89, 89, 96, 64, 116, 89, 116, 116, 116, 73], 0, 0, []), none, none, none, none, none, none, none, none, none, none, none, none, none, none, none],
  [none, none, none, none, none, none, none, none, none, none, none, none, none, none, none, none],
  [none, none, none, none, none, none, none, none, none, none, none, none, none, none, none, none],
  [none, none, none, none, none, none, none, none, none, none, none, none, none, none, none, none],
  [some (.iconst 1, 0, 0, [true, true, true]), some (.aload_n 0, 0, 0, []), some (.aload_n 1, 0, 0, []), some (.iload_n 2, 0, 0, []), some (.invokevirtual 38, 0, 23, []), none, none, some (.ior, 0, 0, []), some (.ireturn, 0, 0, []), some (.aload_n 0, 0, 0, [true, true, true]), some (.aload_n 1, 0, 0, []), some (.iload_n 2, 0, 0, []), some (.invokevirtual 42, 0, 21, []), none, none, some (.ifCond .eq 7, 0, 0, [])],
  [none, none, some (.iconst 1, 0, 0, [false, false, false]), some (.goto 5, 0, 0, []), none, none, some (.bipush 17, 0, 0, [false, false, false]), none, some (.ireturn, 0, 0, [false, false, false]), some (.aload_n 0, 0, 0, [true, true, true]), some (.aload_n 1, 0, 0, []), some (.iload_n 2, 0, 0, []), some (.invokevirtual 46, 0, 20, []), none, none, some (.ireturn, 0, 0, [])],
  [some (.aload_n 0, 0, 0, [true, true, true]), some (.aload_n 1, 0, 0, []), some (.iload_n 2, 0, 0, []), some (.invokevirtual 49, 0, 22, []), none, none, some (.ifCond .eq 12, 0, 0, []), none, none, some (.aload_n 0, 0, 0, [true, true, true]), some (.aload_n 1, 0, 0, []), some (.iload_n 2, 0, 0, []), some (.invokevirtual 46, 0, 20, []), none, none, some (.goto 4, 0, 0, [])],
  [none, none, some (.iconst 1, 0, 0, [false, false, false]), some (.ireturn, 0, 0, [false, false, false]), some (.iconst 1, 0, 0, [false, false, false]), some (.ireturn, 0, 0, [])]]
def ai_d20 : List (List (Option ai_N)) := [[some (.aload_n 0, 0, 0, []), some (.iload_n 2, 0, 0, []), some (.aload_n 1, 0, 0, []), some (.iload_n 2, 0, 0, []), some (.iconst 1, 0, 0, []), some (.invokevirtual 32, 0, 4, []), none, none, some (.invokevirtual 52, 0, 18, []), none, none, some (.ifCond .eq 7, 0, 0, []), none, none, some (.iconst 1, 0, 0, [false, false, false]), some (.goto 5, 0, 0, [])],
  [none, none, some (.bipush 9, 0, 0, [false, false, false]), none, some (.ireturn, 0, 0, [false, false, false])]]
def ai_d21 : List (List (Option ai_N)) := [[some (.aload_n 0, 0, 0, []), some (.aload_n 1, 0, 0, []), some (.iload_n 2, 0, 0, []), some (.iconst 1, 0, 0, []), some (.invokevirtual 56, 0, 24, []), none, none, some (.lstore_n 3, 0, 0, []), some (.lload_n 3, 0, 0, []), some (.ldc2_w 60, 1000000000000, 0, []), none, none, some (.lcmp, 0, 0, []), some (.ifCond .eq 9, 0, 0, []), none, none],
  [some (.lload_n 3, 0, 0, [false, false, false, true, false]), some (.lconst 0, 0, 0, []), some (.lcmp, 0, 0, []), some (.ifCond .ne 7, 0, 0, []), none, none, some (.iconst 1, 0, 0, [false, false, false, false, false]), some (.goto 4, 0, 0, []), none, none, some (.iconst 0, 0, 0, [false, false, false, false, false]), some (.ireturn, 0, 0, [false, false, false, false, false])]]
def ai_d22 : List (List (Option ai_N)) := [[some (.aload_n 0, 0, 0, []), some (.aload_n 1, 0, 0, []), some (.iload_n 2, 0, 0, []), some (.iconst 3, 0, 0, []), some (.invokevirtual 56, 0, 24, []), none, none, some (.lstore_n 3, 0, 0, []), some (.lload_n 3, 0, 0, []), some (.ldc2_w 60, 1000000000000, 0, []), none, none, some (.lcmp, 0, 0, []), some (.ifCond .eq 13, 0, 0, []), none, none],
  [some (.lload_n 3, 0, 0, [false, false, false, true, false]), some (.lconst 0, 0, 0, []), some (.lcmp, 0, 0, []), some (.ifCond .eq 7, 0, 0, []), none, none, some (.iconst 1, 0, 0, [false, false, false, false, false]), some (.goto 4, 0, 0, []), none, none, some (.iconst 0, 0, 0, [false, false, false, false, false]), some (.ireturn, 0, 0, [false, false, false, false, false])]]
def ai_d23 : List (List (Option ai_N)) := [[some (.aload_n 0, 0, 0, []), some (.aload_n 1, 0, 0, []), some (.iload_n 2, 0, 0, []), some (.iconst 1, 0, 0, []), some (.invokevirtual 56, 0, 24, []), none, none, some (.lstore_n 3, 0, 0, []), some (.aload_n 0, 0, 0, []), some (.aload_n 1, 0, 0, []), some (.iload_n 2, 0, 0, []), some (.iconst 2, 0, 0, []), some (.invokevirtual 56, 0, 24, []), none, none, some (.lstore 5, 0, 0, [])],
  [none, some (.lload_n 3, 0, 0, []), some (.ldc2_w 60, 1000000000000, 0, []), none, none, some (.lcmp, 0, 0, []), some (.ifCond .eq 12, 0, 0, []), none, none, some (.lload 5, 0, 0, [false, false, false, true, false, true, false]), none, some (.ldc2_w 60, 1000000000000, 0, []), none, none, some (.lcmp, 0, 0, []), some (.ifCond .ne 5, 0, 0, [])],
  [none, none, some (.iconst 0, 0, 0, [false, false, false, false, false, false, false]), some (.ireturn, 0, 0, []), some (.lload_n 3, 0, 0, [false, false, false, true, false, true, false]), some (.lload 5, 0, 0, []), none, some (.lcmp, 0, 0, []), some (.ifCond .ge 7, 0, 0, []), none, none, some (.iconst 2, 0, 0, [false, false, false, false, false, false, false]), some (.goto 4, 0, 0, []), none, none, some (.iconst 4, 0, 0, [false, false, false, false, false, false, false])],
  [some (.ireturn, 0, 0, [false, false, false, false, false, false, false])]]
def ai_d24 : List (List (Option ai_N)) := [[some (.aload_n 0, 0, 0, []), some (.getfield 9, 1, 0, []), none, none, some (.iload_n 2, 0, 0, []), some (.iconst 4, 0, 0, []), some (.imul, 0, 0, []), some (.aload_n 1, 0, 0, []), some (.getfield 62, 0, 0, []), none, none, some (.iload_n 2, 0, 0, []), some (.iconst 4, 0, 0, []), some (.imul, 0, 0, []), some (.iload_n 3, 0, 0, []), some (.iadd, 0, 0, [])],
  [some (.iaload, 0, 0, []), some (.iadd, 0, 0, []), some (.laload, 0, 0, []), some (.lreturn, 0, 0, [])]]
def ai_d25 : List (List (Option ai_N)) := [[some (.iconst 0, 0, 0, []), some (.istore_n 2, 0, 0, []), some (.iload_n 2, 0, 0, [true, true, true, false, false]), some (.aload_n 0, 0, 0, []), some (.getfield 9, 1, 0, []), none, none, some (.arraylength, 0, 0, []), some (.if_icmp .ge 18, 0, 0, []), none, none, some (.aload_n 0, 0, 0, [true, true, true, false, false]), some (.getfield 9, 1, 0, []), none, none, some (.iload_n 2, 0, 0, [])],
  [some (.ldc2_w 26, 2000000000000, 0, []), none, none, some (.lastore, 0, 0, []), some (.iinc 2 1, 0, 0, []), none, none, some (.goto (-21), 0, 0, []), none, none, some (.aload_n 0, 0, 0, [true, true, false, false, false]), some (.getfield 19, 1, 2, []), none, none, some (.iconst 0, 0, 0, []), some (.ldc2_w 60, 1000000000000, 0, [])],
  [none, none, some (.lastore, 0, 0, []), some (.aload_n 0, 0, 0, []), some (.getfield 19, 1, 2, []), none, none, some (.iconst 1, 0, 0, []), some (.ldc2_w 60, 1000000000000, 0, []), none, none, some (.lastore, 0, 0, []), some (.aload_n 0, 0, 0, []), some (.getfield 19, 1, 2, []), none, none],
  [some (.iconst 2, 0, 0, []), some (.lconst 0, 0, 0, []), some (.lastore, 0, 0, []), some (.aload_n 0, 0, 0, []), some (.getfield 19, 1, 2, []), none, none, some (.iconst 3, 0, 0, []), some (.lconst 0, 0, 0, []), some (.lastore, 0, 0, []), some (.aload_n 0, 0, 0, []), some (.aload_n 1, 0, 0, []), some (.iconst 0, 0, 0, []), some (.invokevirtual 65, 0, 27, []), none, none],
  [some (.istore_n 2, 0, 0, []), some (.iconst 0, 0, 0, []), some (.istore_n 3, 0, 0, []), some (.iload_n 2, 0, 0, [true, true, true, true, false]), some (.ifCond .eq 57, 0, 0, []), none, none, some (.iload_n 3, 0, 0, [true, true, false, true, false]), some (.sipush 193, 0, 0, []), none, none, some (.if_icmp .ge 50, 0, 0, []), none, none, some (.iconst 0, 0, 0, [true, true, false, true, false]), some (.istore_n 2, 0, 0, [])],
  [some (.iconst 0, 0, 0, []), some (.istore 4, 0, 0, []), none, some (.iload 4, 0, 0, [true, true, true, true, true]), none, some (.aload_n 1, 0, 0, []), some (.invokevirtual 68, 0, 1, []), none, none, some (.if_icmp .ge 30, 0, 0, []), none, none, some (.aload_n 0, 0, 0, [true, true, true, true, true]), some (.iload 4, 0, 0, []), none, some (.invokevirtual 28, 0, 16, [])],
  [none, none, some (.ifCond .eq 15, 0, 0, []), none, none, some (.aload_n 0, 0, 0, [true, true, true, true, true]), some (.aload_n 1, 0, 0, []), some (.iload 4, 0, 0, []), none, some (.invokevirtual 72, 0, 26, []), none, none, some (.ifCond .eq 5, 0, 0, []), none, none, some (.iconst 1, 0, 0, [true, true, false, true, true])],
  [some (.istore_n 2, 0, 0, []), some (.iinc 4 1, 0, 0, [true, true, true, true, true]), none, none, some (.goto (-33), 0, 0, []), none, none, some (.iinc 3 1, 0, 0, [true, true, true, true, false]), none, none, some (.goto (-55), 0, 0, []), none, none, some (.return_, 0, 0, [false, false, false, false, false])]]
def ai_d26 : List (List (Option ai_N)) := [[some (.aload_n 0, 0, 0, []), some (.aload_n 1, 0, 0, []), some (.iload_n 2, 0, 0, []), some (.invokevirtual 75, 0, 28, []), none, none, some (.aload_n 0, 0, 0, []), some (.aload_n 1, 0, 0, []), some (.iload_n 2, 0, 0, []), some (.invokevirtual 79, 0, 30, []), none, none, some (.ifCond .eq 18, 0, 0, []), none, none, some (.aload_n 0, 0, 0, [true, true, true, false])],
  [some (.aload_n 1, 0, 0, []), some (.iload_n 2, 0, 0, []), some (.iconst 1, 0, 0, []), some (.iadd, 0, 0, []), some (.invokevirtual 65, 0, 27, []), none, none, some (.ifCond .eq 7, 0, 0, []), none, none, some (.iconst 1, 0, 0, [true, true, true, false]), some (.goto 4, 0, 0, []), none, none, some (.iconst 0, 0, 0, [true, true, true, false]), some (.istore_n 3, 0, 0, [true, true, true, false])],
  [some (.aload_n 0, 0, 0, []), some (.aload_n 1, 0, 0, []), some (.aload_n 0, 0, 0, []), some (.aload_n 1, 0, 0, []), some (.iload_n 2, 0, 0, []), some (.invokevirtual 82, 0, 31, []), none, none, some (.invokevirtual 65, 0, 27, []), none, none, some (.ifCond .ne 7, 0, 0, []), none, none, some (.iload_n 3, 0, 0, [false, false, false, true]), some (.ifCond .eq 7, 0, 0, [])],
  [none, none, some (.iconst 1, 0, 0, [false, false, false, false]), some (.goto 4, 0, 0, []), none, none, some (.iconst 0, 0, 0, [false, false, false, false]), some (.ireturn, 0, 0, [false, false, false, false])]]
def ai_d27 : List (List (Option ai_N)) := [[some (.aload_n 1, 0, 0, []), some (.iload_n 2, 0, 0, []), some (.invokevirtual 85, 0, 2, []), none, none, some (.ifCond .ne 5, 0, 0, []), none, none, some (.iconst 0, 0, 0, [false, false, false, false, false, false, false, false]), some (.ireturn, 0, 0, []), some (.iconst 0, 0, 0, [true, false, true, false, false, false, false, false]), some (.istore_n 3, 0, 0, []), some (.iconst 0, 0, 0, []), some (.istore 4, 0, 0, []), none, some (.iload 4, 0, 0, [true, false, true, true, true, false, false, false])],
  [none, some (.iconst 4, 0, 0, []), some (.if_icmp .ge 96, 0, 0, []), none, none, some (.iload_n 2, 0, 0, [true, false, true, true, true, false, false, false]), some (.iconst 4, 0, 0, []), some (.imul, 0, 0, []), some (.iload 4, 0, 0, []), none, some (.iadd, 0, 0, []), some (.istore 5, 0, 0, []), none, some (.aload_n 0, 0, 0, []), some (.getfield 9, 1, 0, []), none],
  [none, some (.iload 5, 0, 0, []), none, some (.laload, 0, 0, []), some (.ldc2_w 26, 2000000000000, 0, []), none, none, some (.lcmp, 0, 0, []), some (.ifCond .eq 21, 0, 0, []), none, none, some (.aload_n 0, 0, 0, [true, false, true, true, true, true, false, false]), some (.getfield 9, 1, 0, []), none, none, some (.iload 5, 0, 0, [])],
  [none, some (.laload, 0, 0, []), some (.aload_n 0, 0, 0, []), some (.getfield 19, 1, 2, []), none, none, some (.iload 4, 0, 0, []), none, some (.laload, 0, 0, []), some (.lcmp, 0, 0, []), some (.ifCond .ne 13, 0, 0, []), none, none, some (.aload_n 0, 0, 0, [true, false, true, true, true, true, false, false]), some (.getfield 19, 1, 2, []), none],
  [none, some (.iload 4, 0, 0, []), none, some (.laload, 0, 0, []), some (.goto 6, 0, 0, []), none, none, some (.ldc2_w 60, 1000000000000, 0, [true, false, true, true, true, true, false, false]), none, none, some (.lstore 6, 0, 0, [true, false, true, true, true, true, false, false]), none, some (.iload_n 3, 0, 0, []), some (.ifCond .ne 16, 0, 0, []), none, none],
  [some (.lload 6, 0, 0, [true, false, true, false, true, true, true, false]), none, some (.aload_n 0, 0, 0, []), some (.getfield 9, 1, 0, []), none, none, some (.iload 5, 0, 0, []), none, some (.laload, 0, 0, []), some (.lcmp, 0, 0, []), some (.ifCond .eq 7, 0, 0, []), none, none, some (.iconst 1, 0, 0, [true, false, true, false, true, true, true, false]), some (.goto 4, 0, 0, []), none],
  [none, some (.iconst 0, 0, 0, [true, false, true, false, true, true, true, false]), some (.istore_n 3, 0, 0, [true, false, true, false, true, true, true, false]), some (.aload_n 0, 0, 0, []), some (.getfield 9, 1, 0, []), none, none, some (.iload 5, 0, 0, []), none, some (.lload 6, 0, 0, []), none, some (.lastore, 0, 0, []), some (.iinc 4 1, 0, 0, []), none, none, some (.goto (-96), 0, 0, [])],
  [none, none, some (.iload_n 3, 0, 0, [false, false, false, true, false, false, false, false]), some (.ireturn, 0, 0, [])]]
def ai_d28 : List (List (Option ai_N)) := [[some (.aload_n 0, 0, 0, []), some (.getfield 9, 1, 0, []), none, none, some (.iload_n 2, 0, 0, []), some (.iconst 4, 0, 0, []), some (.imul, 0, 0, []), some (.aload_n 0, 0, 0, []), some (.getfield 19, 1, 2, []), none, none, some (.iconst 0, 0, 0, []), some (.iconst 4, 0, 0, []), some (.invokestatic 88, 8, 0, []), none, none],
  [some (.aload_n 1, 0, 0, []), some (.iload_n 2, 0, 0, []), some (.iconst 0, 0, 0, []), some (.invokevirtual 32, 0, 4, []), none, none, some (.istore_n 3, 0, 0, []), some (.aload_n 1, 0, 0, []), some (.iload_n 2, 0, 0, []), some (.iconst 1, 0, 0, []), some (.invokevirtual 32, 0, 4, []), none, none, some (.istore 4, 0, 0, []), none, some (.iload_n 3, 0, 0, [])],
  [some (.tableswitch 131 0 9 #[56, 73, 90, 90, 90, 131, 131, 118, 131, 118], 0, 0, []), none, none, none, none, none, none, none, none, none, none, none, none, none, none, none],
  [none, none, none, none, none, none, none, none, none, none, none, none, none, none, none, none],
  [none, none, none, none, none, none, none, none, none, none, none, none, none, none, none, none],
  [none, none, none, none, none, none, none, none, some (.aload_n 0, 0, 0, [true, true, true, false, true]), some (.getfield 19, 1, 2, []), none, none, some (.iload 4, 0, 0, []), none, some (.aload_n 1, 0, 0, []), some (.iload_n 2, 0, 0, [])],
  [some (.iconst 2, 0, 0, []), some (.invokevirtual 32, 0, 4, []), none, none, some (.i2l, 0, 0, []), some (.lastore, 0, 0, []), some (.goto 61, 0, 0, []), none, none, some (.aload_n 0, 0, 0, [true, true, true, false, true]), some (.getfield 19, 1, 2, []), none, none, some (.iload 4, 0, 0, []), none, some (.aload_n 0, 0, 0, [])],
  [some (.aload_n 1, 0, 0, []), some (.iload_n 2, 0, 0, []), some (.iconst 2, 0, 0, []), some (.invokevirtual 56, 0, 24, []), none, none, some (.lastore, 0, 0, []), some (.goto 44, 0, 0, []), none, none, some (.aload_n 0, 0, 0, [true, true, true, true, true]), some (.getfield 19, 1, 2, []), none, none, some (.iload 4, 0, 0, []), none],
  [some (.iload_n 3, 0, 0, []), some (.aload_n 0, 0, 0, []), some (.aload_n 1, 0, 0, []), some (.iload_n 2, 0, 0, []), some (.iconst 2, 0, 0, []), some (.invokevirtual 56, 0, 24, []), none, none, some (.aload_n 0, 0, 0, []), some (.aload_n 1, 0, 0, []), some (.iload_n 2, 0, 0, []), some (.iconst 3, 0, 0, []), some (.invokevirtual 56, 0, 24, []), none, none, some (.invokestatic 94, 1, 29, [])],
  [none, none, some (.lastore, 0, 0, []), some (.goto 16, 0, 0, []), none, none, some (.aload_n 0, 0, 0, [true, false, false, false, true]), some (.getfield 19, 1, 2, []), none, none, some (.iload 4, 0, 0, []), none, some (.ldc2_w 60, 1000000000000, 0, []), none, none, some (.lastore, 0, 0, [])],
  [some (.goto 3, 0, 0, []), none, none, some (.return_, 0, 0, [false, false, false, false, false])]]
def ai_d29 : List (List (Option ai_N)) := [[some (.lload_n 1, 0, 0, []), some (.ldc2_w 60, 1000000000000, 0, []), none, none, some (.lcmp, 0, 0, []), some (.ifCond .eq 11, 0, 0, []), none, none, some (.lload_n 3, 0, 0, [true, true, false, true, false]), some (.ldc2_w 60, 1000000000000, 0, []), none, none, some (.lcmp, 0, 0, []), some (.ifCond .ne 9, 0, 0, []), none, none],
  [some (.ldc2_w 60, 1000000000000, 0, [false, false, false, false, false]), none, none, some (.goto 12, 0, 0, []), none, none, some (.iload_n 0, 0, 0, [true, true, false, true, false]), some (.lload_n 1, 0, 0, []), some (.l2i, 0, 0, []), some (.lload_n 3, 0, 0, []), some (.l2i, 0, 0, []), some (.invokestatic 98, 4, 93, []), none, none, some (.i2l, 0, 0, []), some (.lreturn, 0, 0, [false, false, false, false, false])]]
def ai_d30 : List (List (Option ai_N)) := [[some (.aload_n 1, 0, 0, []), some (.iload_n 2, 0, 0, []), some (.iconst 0, 0, 0, []), some (.invokevirtual 32, 0, 4, []), none, none, some (.tableswitch 100 4 11 #[64, 48, 46, 100, 100, 100, 46, 82], 0, 0, []), none, none, none, none, none, none, none, none, none],
  [none, none, none, none, none, none, none, none, none, none, none, none, none, none, none, none],
  [none, none, none, none, none, none, none, none, none, none, none, none, none, none, none, none],
  [none, none, none, none, some (.iconst 0, 0, 0, [false, false, false]), some (.ireturn, 0, 0, []), some (.aload_n 0, 0, 0, [true, true, true]), some (.aload_n 1, 0, 0, []), some (.iload_n 2, 0, 0, []), some (.invokevirtual 38, 0, 23, []), none, none, some (.iconst 2, 0, 0, []), some (.if_icmp .eq 7, 0, 0, []), none, none],
  [some (.iconst 1, 0, 0, [false, false, false]), some (.goto 4, 0, 0, []), none, none, some (.iconst 0, 0, 0, [false, false, false]), some (.ireturn, 0, 0, [false, false, false]), some (.aload_n 0, 0, 0, [true, true, true]), some (.aload_n 1, 0, 0, []), some (.iload_n 2, 0, 0, []), some (.iconst 3, 0, 0, []), some (.invokevirtual 56, 0, 24, []), none, none, some (.lconst 0, 0, 0, []), some (.lcmp, 0, 0, []), some (.ifCond .eq 7, 0, 0, [])],
  [none, none, some (.iconst 1, 0, 0, [false, false, false]), some (.goto 4, 0, 0, []), none, none, some (.iconst 0, 0, 0, [false, false, false]), some (.ireturn, 0, 0, [false, false, false]), some (.aload_n 0, 0, 0, [true, true, true]), some (.aload_n 1, 0, 0, []), some (.iload_n 2, 0, 0, []), some (.iconst 1, 0, 0, []), some (.invokevirtual 56, 0, 24, []), none, none, some (.lconst 0, 0, 0, [])],
  [some (.lcmp, 0, 0, []), some (.ifCond .eq 7, 0, 0, []), none, none, some (.iconst 1, 0, 0, [false, false, false]), some (.goto 4, 0, 0, []), none, none, some (.iconst 0, 0, 0, [false, false, false]), some (.ireturn, 0, 0, [false, false, false]), some (.iconst 1, 0, 0, [false, false, false]), some (.ireturn, 0, 0, [])]]
def ai_d31 : List (List (Option ai_N)) := [[some (.aload_n 1, 0, 0, []), some (.iload_n 2, 0, 0, []), some (.iconst 0, 0, 0, []), some (.invokevirtual 32, 0, 4, []), none, none, some (.lookupswitch 54 #[(5, 33), (6, 26)], 0, 0, []), none, none, none, none, none, none, none, none, none],
  [none, none, none, none, none, none, none, none, none, none, none, none, none, none, none, none],
  [some (.aload_n 1, 0, 0, [false, true, true]), some (.iload_n 2, 0, 0, []), some (.iconst 1, 0, 0, []), some (.invokevirtual 32, 0, 4, []), none, none, some (.ireturn, 0, 0, []), some (.aload_n 0, 0, 0, [true, true, true]), some (.aload_n 1, 0, 0, []), some (.iload_n 2, 0, 0, []), some (.invokevirtual 38, 0, 23, []), none, none, some (.iconst 4, 0, 0, []), some (.if_icmp .ne 7, 0, 0, []), none],
  [none, some (.iconst (-1), 0, 0, [false, false, false]), some (.goto 9, 0, 0, []), none, none, some (.aload_n 1, 0, 0, [false, true, true]), some (.iload_n 2, 0, 0, []), some (.iconst 3, 0, 0, []), some (.invokevirtual 32, 0, 4, []), none, none, some (.ireturn, 0, 0, [false, false, false]), some (.iconst (-1), 0, 0, [false, false, false]), some (.ireturn, 0, 0, [])]]
def ai_d32 : List (List (Option ai_N)) := [[some (.iconst 0, 0, 0, []), some (.istore_n 2, 0, 0, []), some (.iload_n 2, 0, 0, [true, true, true, false, false, false]), some (.bipush 24, 0, 0, []), none, some (.if_icmp .ge 16, 0, 0, []), none, none, some (.aload_n 0, 0, 0, [true, true, true, false, false, false]), some (.getfield 15, 1, 1, []), none, none, some (.iload_n 2, 0, 0, []), some (.iconst 0, 0, 0, []), some (.iastore, 0, 0, []), some (.iinc 2 1, 0, 0, [])],
  [none, none, some (.goto (-16), 0, 0, []), none, none, some (.iconst 1, 0, 0, [true, true, false, false, false, false]), some (.istore_n 2, 0, 0, []), some (.iconst 0, 0, 0, []), some (.istore_n 3, 0, 0, []), some (.iload_n 2, 0, 0, [true, true, true, true, false, false]), some (.ifCond .eq 90, 0, 0, []), none, none, some (.iload_n 3, 0, 0, [true, true, false, true, false, false]), some (.sipush 193, 0, 0, []), none],
  [none, some (.if_icmp .ge 83, 0, 0, []), none, none, some (.iconst 0, 0, 0, [true, true, false, true, false, false]), some (.istore_n 2, 0, 0, []), some (.aload_n 1, 0, 0, []), some (.invokevirtual 68, 0, 1, []), none, none, some (.iconst 1, 0, 0, []), some (.isub, 0, 0, []), some (.istore 4, 0, 0, []), none, some (.iload 4, 0, 0, [true, true, true, true, true, false]), none],
  [some (.ifCond .lt 62, 0, 0, []), none, none, some (.aload_n 0, 0, 0, [true, true, true, true, true, false]), some (.iload 4, 0, 0, []), none, some (.invokevirtual 28, 0, 16, []), none, none, some (.ifCond .eq 13, 0, 0, []), none, none, some (.aload_n 0, 0, 0, [true, true, true, true, true, false]), some (.aload_n 1, 0, 0, []), some (.iload 4, 0, 0, []), none],
  [some (.invokevirtual 102, 0, 33, []), none, none, some (.goto 4, 0, 0, []), none, none, some (.iconst 0, 0, 0, [true, true, true, true, true, false]), some (.istore 5, 0, 0, [true, true, true, true, true, false]), none, some (.iload_n 2, 0, 0, []), some (.ifCond .ne 15, 0, 0, []), none, none, some (.iload 5, 0, 0, [true, true, false, true, true, true]), none, some (.aload_n 0, 0, 0, [])],
  [some (.getfield 15, 1, 1, []), none, none, some (.iload 4, 0, 0, []), none, some (.iaload, 0, 0, []), some (.if_icmp .eq 7, 0, 0, []), none, none, some (.iconst 1, 0, 0, [true, true, false, true, true, true]), some (.goto 4, 0, 0, []), none, none, some (.iconst 0, 0, 0, [true, true, false, true, true, true]), some (.istore_n 2, 0, 0, [true, true, false, true, true, true]), some (.aload_n 0, 0, 0, [])],
  [some (.getfield 15, 1, 1, []), none, none, some (.iload 4, 0, 0, []), none, some (.iload 5, 0, 0, []), none, some (.iastore, 0, 0, []), some (.iinc 4 (-1), 0, 0, []), none, none, some (.goto (-61), 0, 0, []), none, none, some (.iinc 3 1, 0, 0, [true, true, true, true, false, false]), none],
  [none, some (.goto (-88), 0, 0, []), none, none, some (.return_, 0, 0, [false, false, false, false, false, false])]]
def ai_d33 : List (List (Option ai_N)) := [[some (.aload_n 0, 0, 0, []), some (.aload_n 1, 0, 0, []), some (.aload_n 0, 0, 0, []), some (.aload_n 1, 0, 0, []), some (.iload_n 2, 0, 0, []), some (.invokevirtual 82, 0, 31, []), none, none, some (.invokevirtual 105, 0, 34, []), none, none, some (.istore_n 3, 0, 0, []), some (.aload_n 0, 0, 0, []), some (.aload_n 1, 0, 0, []), some (.iload_n 2, 0, 0, []), some (.invokevirtual 79, 0, 30, [])],
  [none, none, some (.ifCond .eq 16, 0, 0, []), none, none, some (.iload_n 3, 0, 0, [true, true, true, true]), some (.aload_n 0, 0, 0, []), some (.aload_n 1, 0, 0, []), some (.iload_n 2, 0, 0, []), some (.iconst 1, 0, 0, []), some (.iadd, 0, 0, []), some (.invokevirtual 105, 0, 34, []), none, none, some (.ior, 0, 0, []), some (.goto 4, 0, 0, [])],
  [none, none, some (.iload_n 3, 0, 0, [false, false, false, true]), some (.ireturn, 0, 0, [false, false, false, false])]]
def ai_d34 : List (List (Option ai_N)) := [[some (.aload_n 1, 0, 0, []), some (.iload_n 2, 0, 0, []), some (.invokevirtual 85, 0, 2, []), none, none, some (.ifCond .eq 26, 0, 0, []), none, none, some (.aload_n 1, 0, 0, [true, true, true]), some (.iload_n 2, 0, 0, []), some (.invokevirtual 108, 0, 10, []), none, none, some (.aload_n 0, 0, 0, []), some (.getfield 15, 1, 1, []), none],
  [none, some (.iload_n 2, 0, 0, []), some (.iaload, 0, 0, []), some (.aload_n 1, 0, 0, []), some (.iload_n 2, 0, 0, []), some (.invokevirtual 112, 0, 11, []), none, none, some (.iconst (-1), 0, 0, []), some (.ixor, 0, 0, []), some (.iand, 0, 0, []), some (.ior, 0, 0, []), some (.goto 4, 0, 0, []), none, none, some (.iconst 0, 0, 0, [false, false, false])],
  [some (.ireturn, 0, 0, [false, false, false])]]
def ai_d35 : List (List (Option ai_N)) := [[some (.aload_n 0, 0, 0, []), some (.invokespecial 3, 9, 0, []), none, none, some (.aload_n 0, 0, 0, []), some (.iconst 4, 0, 0, []), some (.newarray .int, 0, 0, []), none, some (.putfield 9, 2, 0, []), none, none, some (.aload_n 0, 0, 0, []), some (.bipush 60, 0, 0, []), none, some (.newarray .int, 0, 0, []), none],
  [some (.putfield 15, 2, 1, []), none, none, some (.aload_n 0, 0, 0, []), some (.bipush 32, 0, 0, []), none, some (.newarray .int, 0, 0, []), none, some (.putfield 18, 2, 2, []), none, none, some (.aload_n 0, 0, 0, []), some (.bipush 8, 0, 0, []), none, some (.newarray .int, 0, 0, []), none],
  [some (.putfield 21, 2, 3, []), none, none, some (.aload_n 0, 0, 0, []), some (.bipush 8, 0, 0, []), none, some (.newarray .int, 0, 0, []), none, some (.putfield 24, 2, 4, []), none, none, some (.return_, 0, 0, [])]]
def ai_d36 : List (List (Option ai_N)) := [[some (.aload_n 0, 0, 0, []), some (.getfield 27, 2, 8, []), none, none, some (.ireturn, 0, 0, [])]]
def ai_d37 : List (List (Option ai_N)) := [[some (.aload_n 0, 0, 0, []), some (.getfield 31, 2, 6, []), none, none, some (.ireturn, 0, 0, [])]]
def ai_d38 : List (List (Option ai_N)) := [[some (.aload_n 0, 0, 0, []), some (.getfield 34, 2, 7, []), none, none, some (.ireturn, 0, 0, [])]]
def ai_d39 : List (List (Option ai_N)) := [[some (.aload_n 0, 0, 0, []), some (.getfield 9, 2, 0, []), none, none, some (.iload_n 1, 0, 0, []), some (.iaload, 0, 0, []), some (.ireturn, 0, 0, [])]]
def ai_d40 : List (List (Option ai_N)) := [[some (.iload_n 1, 0, 0, []), some (.ifCond .lt 26, 0, 0, []), none, none, some (.iload_n 1, 0, 0, [true, true]), some (.aload_n 0, 0, 0, []), some (.getfield 34, 2, 7, []), none, none, some (.if_icmp .ge 18, 0, 0, []), none, none, some (.iload_n 1, 0, 0, [true, true]), some (.bipush 60, 0, 0, []), none, some (.if_icmp .ge 12, 0, 0, [])],
  [none, none, some (.aload_n 0, 0, 0, [true, true]), some (.getfield 15, 2, 1, []), none, none, some (.iload_n 1, 0, 0, []), some (.iaload, 0, 0, []), some (.goto 4, 0, 0, []), none, none, some (.iconst 0, 0, 0, [false, false]), some (.ireturn, 0, 0, [false, false])]]
def ai_d41 : List (List (Option ai_N)) := [[some (.iconst 0, 0, 0, []), some (.istore_n 1, 0, 0, []), some (.iload_n 1, 0, 0, [true, true]), some (.iconst 4, 0, 0, []), some (.if_icmp .ge 16, 0, 0, []), none, none, some (.aload_n 0, 0, 0, [true, true]), some (.getfield 9, 2, 0, []), none, none, some (.iload_n 1, 0, 0, []), some (.iconst 0, 0, 0, []), some (.iastore, 0, 0, []), some (.iinc 1 1, 0, 0, []), none],
  [none, some (.goto (-15), 0, 0, []), none, none, some (.aload_n 0, 0, 0, [true, false]), some (.iconst 0, 0, 0, []), some (.putfield 37, 2, 5, []), none, none, some (.aload_n 0, 0, 0, []), some (.iconst 0, 0, 0, []), some (.putfield 31, 2, 6, []), none, none, some (.aload_n 0, 0, 0, []), some (.iconst 0, 0, 0, [])],
  [some (.putfield 34, 2, 7, []), none, none, some (.aload_n 0, 0, 0, []), some (.iconst 0, 0, 0, []), some (.putfield 27, 2, 8, []), none, none, some (.return_, 0, 0, [])]]
def ai_d42 : List (List (Option ai_N)) := [[some (.aload_n 0, 0, 0, []), some (.invokevirtual 40, 0, 41, []), none, none, some (.aload_n 0, 0, 0, []), some (.iconst (-1), 0, 0, []), some (.putfield 43, 2, 9, []), none, none, some (.aload_n 0, 0, 0, []), some (.iload_n 2, 0, 0, []), some (.iload_n 3, 0, 0, []), some (.iload 4, 0, 0, []), none, some (.invokevirtual 46, 0, 43, []), none],
  [none, some (.iconst 0, 0, 0, []), some (.istore 5, 0, 0, []), none, some (.aload_n 0, 0, 0, [true, true, false, false, false, true]), some (.getfield 43, 2, 9, []), none, none, some (.iconst (-1), 0, 0, []), some (.if_icmp .ne 22, 0, 0, []), none, none, some (.iload 5, 0, 0, [true, true, false, false, false, true]), none, some (.sipush 10000, 0, 0, []), none],
  [none, some (.if_icmp .ge 14, 0, 0, []), none, none, some (.aload_n 0, 0, 0, [true, true, false, false, false, true]), some (.aload_n 1, 0, 0, []), some (.invokevirtual 50, 0, 44, []), none, none, some (.iinc 5 1, 0, 0, []), none, none, some (.goto (-24), 0, 0, []), none, none, some (.aload_n 0, 0, 0, [true, false, false, false, false, false])],
  [some (.getfield 43, 2, 9, []), none, none, some (.ireturn, 0, 0, [])]]
def ai_d43 : List (List (Option ai_N)) := [[some (.aload_n 0, 0, 0, []), some (.getfield 37, 2, 5, []), none, none, some (.bipush 8, 0, 0, []), none, some (.if_icmp .lt 9, 0, 0, []), none, none, some (.aload_n 0, 0, 0, [true, false, false, false, false]), some (.iconst 3, 0, 0, []), some (.putfield 43, 2, 9, []), none, none, some (.return_, 0, 0, []), some (.aload_n 0, 0, 0, [true, true, true, true, false])],
  [some (.getfield 37, 2, 5, []), none, none, some (.iconst 4, 0, 0, []), some (.imul, 0, 0, []), some (.istore 4, 0, 0, []), none, some (.aload_n 0, 0, 0, []), some (.getfield 18, 2, 2, []), none, none, some (.iload 4, 0, 0, []), none, some (.iload_n 2, 0, 0, []), some (.iastore, 0, 0, []), some (.aload_n 0, 0, 0, [])],
  [some (.getfield 18, 2, 2, []), none, none, some (.iload 4, 0, 0, []), none, some (.iconst 1, 0, 0, []), some (.iadd, 0, 0, []), some (.iload_n 3, 0, 0, []), some (.iastore, 0, 0, []), some (.aload_n 0, 0, 0, []), some (.getfield 18, 2, 2, []), none, none, some (.iload 4, 0, 0, []), none, some (.iconst 2, 0, 0, [])],
  [some (.iadd, 0, 0, []), some (.iconst 0, 0, 0, []), some (.iastore, 0, 0, []), some (.aload_n 0, 0, 0, []), some (.getfield 18, 2, 2, []), none, none, some (.iload 4, 0, 0, []), none, some (.iconst 3, 0, 0, []), some (.iadd, 0, 0, []), some (.iconst 0, 0, 0, []), some (.iastore, 0, 0, []), some (.aload_n 0, 0, 0, []), some (.getfield 21, 2, 3, []), none],
  [none, some (.aload_n 0, 0, 0, []), some (.getfield 37, 2, 5, []), none, none, some (.iconst 0, 0, 0, []), some (.iastore, 0, 0, []), some (.aload_n 0, 0, 0, []), some (.getfield 24, 2, 4, []), none, none, some (.aload_n 0, 0, 0, []), some (.getfield 37, 2, 5, []), none, none, some (.iload_n 1, 0, 0, [])],
  [some (.iastore, 0, 0, []), some (.aload_n 0, 0, 0, []), some (.dup, 0, 0, []), some (.getfield 37, 2, 5, []), none, none, some (.iconst 1, 0, 0, []), some (.iadd, 0, 0, []), some (.putfield 37, 2, 5, []), none, none, some (.return_, 0, 0, [])]]
def ai_d44 : List (List (Option ai_N)) := [[some (.aload_n 1, 0, 0, []), some (.aload_n 0, 0, 0, []), some (.getfield 24, 2, 4, []), none, none, some (.aload_n 0, 0, 0, []), some (.getfield 37, 2, 5, []), none, none, some (.iconst 1, 0, 0, []), some (.isub, 0, 0, []), some (.iaload, 0, 0, []), some (.aaload, 0, 0, []), some (.astore_n 2, 0, 0, []), some (.aload_n 0, 0, 0, []), some (.getfield 21, 2, 3, [])],
  [none, none, some (.aload_n 0, 0, 0, []), some (.getfield 37, 2, 5, []), none, none, some (.iconst 1, 0, 0, []), some (.isub, 0, 0, []), some (.iaload, 0, 0, []), some (.istore_n 3, 0, 0, []), some (.aload_n 2, 0, 0, []), some (.iload_n 3, 0, 0, []), some (.invokevirtual 54, 0, 2, []), none, none, some (.ifCond .ne 12, 0, 0, [])],
  [none, none, some (.aload_n 0, 0, 0, [true, true, false, false]), some (.aload_n 1, 0, 0, []), some (.iconst 0, 0, 0, []), some (.invokevirtual 60, 0, 45, []), none, none, some (.goto 38, 0, 0, []), none, none, some (.aload_n 0, 0, 0, [true, true, true, true]), some (.getfield 31, 2, 6, []), none, none, some (.sipush 2000, 0, 0, [])],
  [none, none, some (.if_icmp .lt 11, 0, 0, []), none, none, some (.aload_n 0, 0, 0, [true, false, false, false]), some (.iconst 4, 0, 0, []), some (.putfield 43, 2, 9, []), none, none, some (.goto 20, 0, 0, []), none, none, some (.aload_n 0, 0, 0, [true, true, true, true]), some (.dup, 0, 0, []), some (.getfield 31, 2, 6, [])],
  [none, none, some (.iconst 1, 0, 0, []), some (.iadd, 0, 0, []), some (.putfield 31, 2, 6, []), none, none, some (.aload_n 0, 0, 0, []), some (.aload_n 1, 0, 0, []), some (.aload_n 2, 0, 0, []), some (.iload_n 3, 0, 0, []), some (.invokevirtual 64, 0, 46, []), none, none, some (.return_, 0, 0, [false, false, false, false])]]
def ai_d45 : List (List (Option ai_N)) := [[some (.aload_n 0, 0, 0, []), some (.dup, 0, 0, []), some (.getfield 37, 2, 5, []), none, none, some (.iconst 1, 0, 0, []), some (.isub, 0, 0, []), some (.putfield 37, 2, 5, []), none, none, some (.aload_n 0, 0, 0, []), some (.getfield 37, 2, 5, []), none, none, some (.ifCond .ne 14, 0, 0, []), none],
  [none, some (.aload_n 0, 0, 0, [true, false, true, false]), some (.iload_n 2, 0, 0, []), some (.putfield 27, 2, 8, []), none, none, some (.aload_n 0, 0, 0, []), some (.iconst 0, 0, 0, []), some (.putfield 43, 2, 9, []), none, none, some (.return_, 0, 0, []), some (.aload_n 1, 0, 0, [true, true, true, false]), some (.aload_n 0, 0, 0, []), some (.getfield 24, 2, 4, []), none],
  [none, some (.aload_n 0, 0, 0, []), some (.getfield 37, 2, 5, []), none, none, some (.iconst 1, 0, 0, []), some (.isub, 0, 0, []), some (.iaload, 0, 0, []), some (.aaload, 0, 0, []), some (.astore_n 3, 0, 0, []), some (.aload_n 0, 0, 0, []), some (.aload_n 3, 0, 0, []), some (.aload_n 0, 0, 0, []), some (.getfield 21, 2, 3, []), none, none],
  [some (.aload_n 0, 0, 0, []), some (.getfield 37, 2, 5, []), none, none, some (.iconst 1, 0, 0, []), some (.isub, 0, 0, []), some (.iaload, 0, 0, []), some (.iconst 1, 0, 0, []), some (.invokevirtual 68, 0, 4, []), none, none, some (.iload_n 2, 0, 0, []), some (.invokevirtual 72, 0, 51, []), none, none, some (.aload_n 0, 0, 0, [])],
  [some (.invokevirtual 76, 0, 53, []), none, none, some (.return_, 0, 0, [])]]
def ai_d46 : List (List (Option ai_N)) := [[some (.aload_n 2, 0, 0, []), some (.iload_n 3, 0, 0, []), some (.iconst 0, 0, 0, []), some (.invokevirtual 68, 0, 4, []), none, none, some (.istore 4, 0, 0, []), none, some (.aload_n 2, 0, 0, []), some (.iload_n 3, 0, 0, []), some (.iconst 1, 0, 0, []), some (.invokevirtual 68, 0, 4, []), none, none, some (.istore 5, 0, 0, []), none],
  [some (.aload_n 2, 0, 0, []), some (.iload_n 3, 0, 0, []), some (.iconst 2, 0, 0, []), some (.invokevirtual 68, 0, 4, []), none, none, some (.istore 6, 0, 0, []), none, some (.aload_n 2, 0, 0, []), some (.iload_n 3, 0, 0, []), some (.iconst 3, 0, 0, []), some (.invokevirtual 68, 0, 4, []), none, none, some (.istore 7, 0, 0, []), none],
  [some (.iload 4, 0, 0, []), none, some (.tableswitch 270 0 11 #[62, 73, 88, 88, 114, 135, 172, 188, 204, 224, 243, 257], 0, 0, []), none, none, none, none, none, none, none, none, none, none, none, none, none],
  [none, none, none, none, none, none, none, none, none, none, none, none, none, none, none, none],
  [none, none, none, none, none, none, none, none, none, none, none, none, none, none, none, none],
  [none, none, none, none, none, none, none, none, none, none, none, none, none, none, none, none],
  [some (.aload_n 0, 0, 0, [true, false, false, false, false, true, true, false]), some (.iload 5, 0, 0, []), none, some (.iload 6, 0, 0, []), none, some (.invokevirtual 79, 0, 52, []), none, none, some (.goto 210, 0, 0, []), none, none, some (.aload_n 0, 0, 0, [true, false, false, false, false, true, true, false]), some (.iload 5, 0, 0, []), none, some (.aload_n 0, 0, 0, []), some (.iload 6, 0, 0, [])],
  [none, some (.invokevirtual 82, 0, 50, []), none, none, some (.invokevirtual 79, 0, 52, []), none, none, some (.goto 195, 0, 0, []), none, none, some (.aload_n 0, 0, 0, [true, false, false, false, true, true, true, true]), some (.iload 5, 0, 0, []), none, some (.iload 4, 0, 0, []), none, some (.aload_n 0, 0, 0, [])],
  [some (.iload 6, 0, 0, []), none, some (.invokevirtual 82, 0, 50, []), none, none, some (.aload_n 0, 0, 0, []), some (.iload 7, 0, 0, []), none, some (.invokevirtual 82, 0, 50, []), none, none, some (.invokestatic 86, 4, 93, []), none, none, some (.invokevirtual 79, 0, 52, []), none],
  [none, some (.goto 169, 0, 0, []), none, none, some (.aload_n 0, 0, 0, [true, false, false, false, false, true, true, true]), some (.iload 5, 0, 0, []), none, some (.aload_n 0, 0, 0, []), some (.iload 6, 0, 0, []), none, some (.invokevirtual 82, 0, 50, []), none, none, some (.aload_n 0, 0, 0, []), some (.iload 7, 0, 0, []), none],
  [some (.invokevirtual 82, 0, 50, []), none, none, some (.invokevirtual 90, 0, 47, []), none, none, some (.goto 148, 0, 0, []), none, none, some (.aload_n 0, 0, 0, [true, false, false, true, false, true, true, true]), some (.getfield 21, 2, 3, []), none, none, some (.aload_n 0, 0, 0, []), some (.getfield 37, 2, 5, []), none],
  [none, some (.iconst 1, 0, 0, []), some (.isub, 0, 0, []), some (.aload_n 0, 0, 0, []), some (.iload 5, 0, 0, []), none, some (.invokevirtual 82, 0, 50, []), none, none, some (.aload_n 0, 0, 0, []), some (.iload 6, 0, 0, []), none, some (.invokevirtual 82, 0, 50, []), none, none, some (.if_icmp .ge 8, 0, 0, [])],
  [none, none, some (.iload 7, 0, 0, [false, false, false, false, false, false, false, true]), none, some (.goto 6, 0, 0, []), none, none, some (.iload_n 3, 0, 0, [false, false, false, true, false, false, false, false]), some (.iconst 1, 0, 0, []), some (.iadd, 0, 0, []), some (.iastore, 0, 0, [false, false, false, false, false, false, false, false]), some (.goto 111, 0, 0, []), none, none, some (.aload_n 0, 0, 0, [true, false, false, false, false, true, false, false]), some (.getfield 21, 2, 3, [])],
  [none, none, some (.aload_n 0, 0, 0, []), some (.getfield 37, 2, 5, []), none, none, some (.iconst 1, 0, 0, []), some (.isub, 0, 0, []), some (.iload 5, 0, 0, []), none, some (.iastore, 0, 0, []), some (.goto 95, 0, 0, []), none, none, some (.aload_n 0, 0, 0, [true, false, false, false, false, true, true, false]), some (.iload 5, 0, 0, [])],
  [none, some (.aload_n 0, 0, 0, []), some (.getfield 9, 2, 0, []), none, none, some (.iload 6, 0, 0, []), none, some (.iaload, 0, 0, []), some (.invokevirtual 79, 0, 52, []), none, none, some (.goto 79, 0, 0, []), none, none, some (.aload_n 0, 0, 0, [true, false, false, false, false, true, true, false]), some (.getfield 9, 2, 0, [])],
  [none, none, some (.iload 6, 0, 0, []), none, some (.aload_n 0, 0, 0, []), some (.iload 5, 0, 0, []), none, some (.invokevirtual 82, 0, 50, []), none, none, some (.iastore, 0, 0, []), some (.aload_n 0, 0, 0, []), some (.invokevirtual 76, 0, 53, []), none, none, some (.goto 59, 0, 0, [])],
  [none, none, some (.aload_n 0, 0, 0, [true, false, false, false, false, false, true, false]), some (.iload 6, 0, 0, []), none, some (.aload_n 0, 0, 0, []), some (.iconst 0, 0, 0, []), some (.invokevirtual 82, 0, 50, []), none, none, some (.aload_n 0, 0, 0, []), some (.iconst 1, 0, 0, []), some (.invokevirtual 82, 0, 50, []), none, none, some (.invokevirtual 46, 0, 43, [])],
  [none, none, some (.goto 40, 0, 0, []), none, none, some (.aload_n 0, 0, 0, [true, true, false, false, false, true, false, false]), some (.aload_n 1, 0, 0, []), some (.aload_n 0, 0, 0, []), some (.iload 5, 0, 0, []), none, some (.invokevirtual 82, 0, 50, []), none, none, some (.invokevirtual 60, 0, 45, []), none, none],
  [some (.goto 26, 0, 0, []), none, none, some (.aload_n 0, 0, 0, [true, false, false, false, false, true, false, false]), some (.aload_n 0, 0, 0, []), some (.iload 5, 0, 0, []), none, some (.invokevirtual 82, 0, 50, []), none, none, some (.invokevirtual 93, 0, 48, []), none, none, some (.goto 13, 0, 0, []), none, none],
  [some (.aload_n 0, 0, 0, [true, false, false, false, false, true, false, false]), some (.aload_n 0, 0, 0, []), some (.iload 5, 0, 0, []), none, some (.invokevirtual 82, 0, 50, []), none, none, some (.invokevirtual 97, 0, 49, []), none, none, some (.return_, 0, 0, [false, false, false, false, false, false, false, false])]]
def ai_d47 : List (List (Option ai_N)) := [[some (.iload_n 3, 0, 0, []), some (.ifCond .ne 11, 0, 0, []), none, none, some (.aload_n 0, 0, 0, [true, false, false, false]), some (.iconst 1, 0, 0, []), some (.putfield 43, 2, 9, []), none, none, some (.goto 14, 0, 0, []), none, none, some (.aload_n 0, 0, 0, [true, true, true, true]), some (.iload_n 1, 0, 0, []), some (.iconst 4, 0, 0, []), some (.iload_n 2, 0, 0, [])],
  [some (.iload_n 3, 0, 0, []), some (.invokestatic 86, 4, 93, []), none, none, some (.invokevirtual 79, 0, 52, []), none, none, some (.return_, 0, 0, [false, false, false, false])]]
def ai_d48 : List (List (Option ai_N)) := [[some (.iload_n 1, 0, 0, []), some (.ifCond .ne 11, 0, 0, []), none, none, some (.aload_n 0, 0, 0, [true, false]), some (.iconst 2, 0, 0, []), some (.putfield 43, 2, 9, []), none, none, some (.goto 7, 0, 0, []), none, none, some (.aload_n 0, 0, 0, [true, false]), some (.invokevirtual 76, 0, 53, []), none, none],
  [some (.return_, 0, 0, [false, false])]]
def ai_d49 : List (List (Option ai_N)) := [[some (.aload_n 0, 0, 0, []), some (.getfield 34, 2, 7, []), none, none, some (.bipush 60, 0, 0, []), none, some (.if_icmp .ge 13, 0, 0, []), none, none, some (.aload_n 0, 0, 0, [true, true]), some (.getfield 15, 2, 1, []), none, none, some (.aload_n 0, 0, 0, []), some (.getfield 34, 2, 7, []), none],
  [none, some (.iload_n 1, 0, 0, []), some (.iastore, 0, 0, []), some (.aload_n 0, 0, 0, [true, false]), some (.dup, 0, 0, []), some (.getfield 34, 2, 7, []), none, none, some (.iconst 1, 0, 0, []), some (.iadd, 0, 0, []), some (.putfield 34, 2, 7, []), none, none, some (.aload_n 0, 0, 0, []), some (.invokevirtual 76, 0, 53, []), none],
  [none, some (.return_, 0, 0, [])]]
def ai_d50 : List (List (Option ai_N)) := [[some (.aload_n 0, 0, 0, []), some (.getfield 18, 2, 2, []), none, none, some (.aload_n 0, 0, 0, []), some (.getfield 37, 2, 5, []), none, none, some (.iconst 1, 0, 0, []), some (.isub, 0, 0, []), some (.iconst 4, 0, 0, []), some (.imul, 0, 0, []), some (.iload_n 1, 0, 0, []), some (.iadd, 0, 0, []), some (.iaload, 0, 0, []), some (.ireturn, 0, 0, [])]]
def ai_d51 : List (List (Option ai_N)) := [[some (.aload_n 0, 0, 0, []), some (.getfield 18, 2, 2, []), none, none, some (.aload_n 0, 0, 0, []), some (.getfield 37, 2, 5, []), none, none, some (.iconst 1, 0, 0, []), some (.isub, 0, 0, []), some (.iconst 4, 0, 0, []), some (.imul, 0, 0, []), some (.iload_n 1, 0, 0, []), some (.iadd, 0, 0, []), some (.iload_n 2, 0, 0, []), some (.iastore, 0, 0, [])],
  [some (.return_, 0, 0, [])]]
def ai_d52 : List (List (Option ai_N)) := [[some (.aload_n 0, 0, 0, []), some (.iload_n 1, 0, 0, []), some (.iload_n 2, 0, 0, []), some (.invokevirtual 72, 0, 51, []), none, none, some (.aload_n 0, 0, 0, []), some (.invokevirtual 76, 0, 53, []), none, none, some (.return_, 0, 0, [])]]
def ai_d53 : List (List (Option ai_N)) := [[some (.aload_n 0, 0, 0, []), some (.getfield 21, 2, 3, []), none, none, some (.aload_n 0, 0, 0, []), some (.getfield 37, 2, 5, []), none, none, some (.iconst 1, 0, 0, []), some (.isub, 0, 0, []), some (.dup2, 0, 0, []), some (.iaload, 0, 0, []), some (.iconst 1, 0, 0, []), some (.iadd, 0, 0, []), some (.iastore, 0, 0, []), some (.return_, 0, 0, [])]]
def ai_d54 : List (List (Option ai_N)) := [[some (.aload_n 0, 0, 0, []), some (.invokespecial 3, 9, 0, []), none, none, some (.aload_n 0, 0, 0, []), some (.bipush 25, 0, 0, []), none, some (.newarray .int, 0, 0, []), none, some (.putfield 9, 3, 0, []), none, none, some (.return_, 0, 0, [])]]
def ai_d55 : List (List (Option ai_N)) := [[some (.iconst 1, 0, 0, []), some (.istore_n 3, 0, 0, []), some (.iconst 0, 0, 0, []), some (.istore 4, 0, 0, []), none, some (.iload_n 3, 0, 0, [true, true, true, true, true]), some (.ifCond .eq 39, 0, 0, []), none, none, some (.iload 4, 0, 0, [true, true, true, false, true]), none, some (.bipush 96, 0, 0, []), none, some (.if_icmp .ge 32, 0, 0, []), none, none],
  [some (.aload_n 2, 0, 0, [true, true, true, false, true]), some (.aload_n 1, 0, 0, []), some (.invokevirtual 15, 0, 25, []), none, none, some (.aload_n 2, 0, 0, []), some (.aload_n 1, 0, 0, []), some (.invokevirtual 21, 0, 32, []), none, none, some (.aload_n 0, 0, 0, []), some (.aload_n 1, 0, 0, []), some (.aload_n 2, 0, 0, []), some (.invokevirtual 24, 0, 56, []), none, none],
  [some (.aload_n 0, 0, 0, []), some (.aload_n 1, 0, 0, []), some (.aload_n 2, 0, 0, []), some (.invokevirtual 28, 0, 58, []), none, none, some (.istore_n 3, 0, 0, []), some (.iinc 4 1, 0, 0, []), none, none, some (.goto (-37), 0, 0, []), none, none, some (.return_, 0, 0, [false, false, false, false, false])]]
def ai_d56 : List (List (Option ai_N)) := [[some (.iconst 0, 0, 0, []), some (.istore_n 3, 0, 0, []), some (.iconst 0, 0, 0, []), some (.istore 4, 0, 0, []), none, some (.iload 4, 0, 0, [true, true, true, true, true]), none, some (.bipush 24, 0, 0, []), none, some (.if_icmp .gt 42, 0, 0, []), none, none, some (.aload_n 0, 0, 0, [true, true, true, true, true]), some (.getfield 9, 3, 0, []), none, none],
  [some (.iload 4, 0, 0, []), none, some (.iload_n 3, 0, 0, []), some (.iastore, 0, 0, []), some (.aload_n 1, 0, 0, []), some (.iload 4, 0, 0, []), none, some (.invokevirtual 32, 0, 2, []), none, none, some (.ifCond .eq 19, 0, 0, []), none, none, some (.aload_n 2, 0, 0, [true, true, true, true, true]), some (.aload_n 1, 0, 0, []), some (.iload 4, 0, 0, [])],
  [none, some (.invokevirtual 38, 0, 19, []), none, none, some (.invokestatic 42, 1, 57, []), none, none, some (.ifCond .eq 6, 0, 0, []), none, none, some (.iinc 3 1, 0, 0, [true, true, true, true, true]), none, none, some (.iinc 4 1, 0, 0, [true, true, true, true, true]), none, none],
  [some (.goto (-43), 0, 0, []), none, none, some (.return_, 0, 0, [false, false, false, false, false])]]
def ai_d57 : List (List (Option ai_N)) := [[some (.iload_n 0, 0, 0, []), some (.iconst 1, 0, 0, []), some (.iand, 0, 0, []), some (.ifCond .eq 14, 0, 0, []), none, none, some (.iload_n 0, 0, 0, [true]), some (.bipush 28, 0, 0, []), none, some (.iand, 0, 0, []), some (.ifCond .ne 7, 0, 0, []), none, none, some (.iconst 1, 0, 0, [false]), some (.goto 4, 0, 0, []), none],
  [none, some (.iconst 0, 0, 0, [false]), some (.ireturn, 0, 0, [false])]]
def ai_d58 : List (List (Option ai_N)) := [[some (.iconst 0, 0, 0, []), some (.istore_n 3, 0, 0, []), some (.iconst 0, 0, 0, []), some (.istore 4, 0, 0, []), none, some (.iload 4, 0, 0, [true, true, true, true, true, false]), none, some (.aload_n 1, 0, 0, []), some (.invokevirtual 45, 0, 1, []), none, none, some (.if_icmp .ge 58, 0, 0, []), none, none, some (.aload_n 2, 0, 0, [true, true, true, true, true, false]), some (.aload_n 1, 0, 0, [])],
  [some (.iload 4, 0, 0, []), none, some (.invokevirtual 38, 0, 19, []), none, none, some (.istore 5, 0, 0, []), none, some (.iload 5, 0, 0, []), none, some (.invokestatic 42, 1, 57, []), none, none, some (.ifCond .eq 35, 0, 0, []), none, none, some (.aload_n 0, 0, 0, [true, true, true, true, true, true])],
  [some (.aload_n 1, 0, 0, []), some (.iload 4, 0, 0, []), none, some (.iload 5, 0, 0, []), none, some (.iconst 2, 0, 0, []), some (.iand, 0, 0, []), some (.ifCond .eq 7, 0, 0, []), none, none, some (.iconst 1, 0, 0, [true, true, true, true, true, false]), some (.goto 4, 0, 0, []), none, none, some (.iconst 0, 0, 0, [true, true, true, true, true, false]), some (.invokevirtual 49, 0, 59, [true, true, true, true, true, false])],
  [none, none, some (.ifCond .ne 7, 0, 0, []), none, none, some (.iload_n 3, 0, 0, [true, true, true, true, true, false]), some (.ifCond .eq 7, 0, 0, []), none, none, some (.iconst 1, 0, 0, [true, true, true, false, true, false]), some (.goto 4, 0, 0, []), none, none, some (.iconst 0, 0, 0, [true, true, true, false, true, false]), some (.istore_n 3, 0, 0, [true, true, true, false, true, false]), some (.iinc 4 1, 0, 0, [true, true, true, true, true, false])],
  [none, none, some (.goto (-61), 0, 0, []), none, none, some (.aload_n 0, 0, 0, [true, true, false, true, false, false]), some (.getfield 9, 3, 0, []), none, none, some (.bipush 24, 0, 0, []), none, some (.iaload, 0, 0, []), some (.istore 4, 0, 0, []), none, some (.aload_n 1, 0, 0, []), some (.iload 4, 0, 0, [])],
  [none, some (.invokevirtual 53, 0, 8, []), none, none, some (.iload 4, 0, 0, []), none, some (.if_icmp .ne 7, 0, 0, []), none, none, some (.iload_n 3, 0, 0, [false, false, false, true, false, false]), some (.ifCond .eq 7, 0, 0, []), none, none, some (.iconst 1, 0, 0, [false, false, false, false, false, false]), some (.goto 4, 0, 0, []), none],
  [none, some (.iconst 0, 0, 0, [false, false, false, false, false, false]), some (.ireturn, 0, 0, [false, false, false, false, false, false])]]
def ai_d59 : List (List (Option ai_N)) := [[some (.aload_n 0, 0, 0, []), some (.getfield 9, 3, 0, []), none, none, some (.iload_n 2, 0, 0, []), some (.iaload, 0, 0, []), some (.istore 4, 0, 0, []), none, some (.aload_n 1, 0, 0, []), some (.iload_n 2, 0, 0, []), some (.iconst 0, 0, 0, []), some (.invokevirtual 57, 0, 4, []), none, none, some (.istore 5, 0, 0, []), none],
  [some (.aload_n 1, 0, 0, []), some (.iload_n 2, 0, 0, []), some (.iconst 1, 0, 0, []), some (.invokevirtual 57, 0, 4, []), none, none, some (.istore 6, 0, 0, []), none, some (.aload_n 1, 0, 0, []), some (.iload_n 2, 0, 0, []), some (.iconst 2, 0, 0, []), some (.invokevirtual 57, 0, 4, []), none, none, some (.istore 7, 0, 0, []), none],
  [some (.aload_n 1, 0, 0, []), some (.iload_n 2, 0, 0, []), some (.iconst 3, 0, 0, []), some (.invokevirtual 57, 0, 4, []), none, none, some (.istore 8, 0, 0, []), none, some (.iload 5, 0, 0, []), none, some (.bipush 6, 0, 0, []), none, some (.if_icmp .ne 40, 0, 0, []), none, none, some (.aload_n 1, 0, 0, [true, true, false, false, true, false, true, true, true, false])],
  [some (.iload 4, 0, 0, []), none, some (.bipush 6, 0, 0, []), none, some (.aload_n 0, 0, 0, []), some (.getfield 9, 3, 0, []), none, none, some (.iload 6, 0, 0, []), none, some (.iaload, 0, 0, []), some (.iload 7, 0, 0, []), none, some (.iload 8, 0, 0, []), none, some (.invokevirtual 61, 0, 6, [])],
  [none, none, some (.aload_n 0, 0, 0, []), some (.getfield 9, 3, 0, []), none, none, some (.iload 6, 0, 0, []), none, some (.iaload, 0, 0, []), some (.iload 6, 0, 0, []), none, some (.if_icmp .eq 7, 0, 0, []), none, none, some (.iconst 1, 0, 0, [false, false, false, false, false, false, false, false, false, false]), some (.goto 4, 0, 0, [])],
  [none, none, some (.iconst 0, 0, 0, [false, false, false, false, false, false, false, false, false, false]), some (.ireturn, 0, 0, [false, false, false, false, false, false, false, false, false, false]), some (.iload 5, 0, 0, [true, true, false, true, true, true, true, true, true, false]), none, some (.iconst 5, 0, 0, []), some (.if_icmp .ne 26, 0, 0, []), none, none, some (.iload_n 3, 0, 0, [true, true, false, true, true, true, true, true, true, false]), some (.ifCond .eq 22, 0, 0, []), none, none, some (.aload_n 1, 0, 0, [true, true, false, false, true, false, false, false, true, false]), some (.iload 4, 0, 0, [])],
  [none, some (.bipush 6, 0, 0, []), none, some (.aload_n 0, 0, 0, []), some (.getfield 9, 3, 0, []), none, none, some (.iload 8, 0, 0, []), none, some (.iaload, 0, 0, []), some (.iconst 0, 0, 0, []), some (.iconst 0, 0, 0, []), some (.invokevirtual 61, 0, 6, []), none, none, some (.iconst 1, 0, 0, [])],
  [some (.ireturn, 0, 0, []), some (.iload 5, 0, 0, [true, true, false, false, true, true, true, true, true, false]), none, some (.iconst 5, 0, 0, []), some (.if_icmp .ne 13, 0, 0, []), none, none, some (.aload_n 0, 0, 0, [true, true, false, false, true, true, true, true, true, false]), some (.getfield 9, 3, 0, []), none, none, some (.iload 8, 0, 0, []), none, some (.iaload, 0, 0, []), some (.goto 5, 0, 0, []), none],
  [none, some (.iload 8, 0, 0, [false, true, false, false, true, true, true, true, true, false]), none, some (.istore 9, 0, 0, [false, true, false, false, true, true, true, true, true, false]), none, some (.aload_n 1, 0, 0, []), some (.iload 4, 0, 0, []), none, some (.iload 5, 0, 0, []), none, some (.iload 6, 0, 0, []), none, some (.iload 7, 0, 0, []), none, some (.iload 9, 0, 0, []), none],
  [some (.invokevirtual 61, 0, 6, []), none, none, some (.iload 9, 0, 0, []), none, some (.iload 8, 0, 0, []), none, some (.if_icmp .eq 7, 0, 0, []), none, none, some (.iconst 1, 0, 0, [false, false, false, false, false, false, false, false, false, false]), some (.goto 4, 0, 0, []), none, none, some (.iconst 0, 0, 0, [false, false, false, false, false, false, false, false, false, false]), some (.ireturn, 0, 0, [false, false, false, false, false, false, false, false, false, false])]]
def ai_d60 : List (List (Option ai_N)) := [[some (.aload_n 0, 0, 0, []), some (.invokespecial 3, 9, 0, []), none, none, some (.aload_n 0, 0, 0, []), some (.bipush 8, 0, 0, []), none, some (.newarray .boolean, 0, 0, []), none, some (.putfield 9, 4, 0, []), none, none, some (.aload_n 0, 0, 0, []), some (.bipush 8, 0, 0, []), none, some (.newarray .boolean, 0, 0, [])],
  [none, some (.putfield 15, 4, 1, []), none, none, some (.aload_n 0, 0, 0, []), some (.iconst 4, 0, 0, []), some (.newarray .int, 0, 0, []), none, some (.putfield 18, 4, 2, []), none, none, some (.return_, 0, 0, [])]]
def ai_d61 : List (List (Option ai_N)) := [[some (.aload_n 0, 0, 0, []), some (.getfield 9, 4, 0, []), none, none, some (.iload_n 1, 0, 0, []), some (.baload, 0, 0, []), some (.ireturn, 0, 0, [])]]
def ai_d62 : List (List (Option ai_N)) := [[some (.aload_n 0, 0, 0, []), some (.getfield 18, 4, 2, []), none, none, some (.iload_n 1, 0, 0, []), some (.iaload, 0, 0, []), some (.ireturn, 0, 0, [])]]
def ai_d63 : List (List (Option ai_N)) := [[some (.iconst 0, 0, 0, []), some (.istore 4, 0, 0, []), none, some (.iload 4, 0, 0, [true, true, true, true, true, false]), none, some (.bipush 8, 0, 0, []), none, some (.if_icmp .ge 28, 0, 0, []), none, none, some (.aload_n 0, 0, 0, [true, true, true, true, true, false]), some (.getfield 9, 4, 0, []), none, none, some (.iload 4, 0, 0, []), none],
  [some (.aload_n 2, 0, 0, []), some (.iload 4, 0, 0, []), none, some (.baload, 0, 0, []), some (.bastore, 0, 0, []), some (.aload_n 0, 0, 0, []), some (.getfield 15, 4, 1, []), none, none, some (.iload 4, 0, 0, []), none, some (.iconst 0, 0, 0, []), some (.bastore, 0, 0, []), some (.iinc 4 1, 0, 0, []), none, none],
  [some (.goto (-29), 0, 0, []), none, none, some (.iconst 0, 0, 0, [true, true, false, true, false, false]), some (.istore 4, 0, 0, []), none, some (.iload 4, 0, 0, [true, true, false, true, true, false]), none, some (.iconst 4, 0, 0, []), some (.if_icmp .ge 17, 0, 0, []), none, none, some (.aload_n 0, 0, 0, [true, true, false, true, true, false]), some (.getfield 18, 4, 2, []), none, none],
  [some (.iload 4, 0, 0, []), none, some (.iconst 0, 0, 0, []), some (.iastore, 0, 0, []), some (.iinc 4 1, 0, 0, []), none, none, some (.goto (-17), 0, 0, []), none, none, some (.iconst 0, 0, 0, [true, true, false, true, false, false]), some (.istore 4, 0, 0, []), none, some (.iload 4, 0, 0, [true, true, false, true, true, false]), none, some (.bipush 8, 0, 0, [])],
  [none, some (.if_icmp .ge 47, 0, 0, []), none, none, some (.aload_n 0, 0, 0, [true, true, false, true, true, false]), some (.invokevirtual 22, 0, 64, []), none, none, some (.istore 5, 0, 0, []), none, some (.iload 5, 0, 0, []), none, some (.iconst (-1), 0, 0, []), some (.if_icmp .ne 4, 0, 0, []), none, none],
  [some (.return_, 0, 0, [false, false, false, false, false, false]), some (.aload_n 0, 0, 0, [true, true, false, true, true, true]), some (.getfield 15, 4, 1, []), none, none, some (.iload 5, 0, 0, []), none, some (.iconst 1, 0, 0, []), some (.bastore, 0, 0, []), some (.aload_n 3, 0, 0, []), some (.aload_n 1, 0, 0, []), some (.iload 5, 0, 0, []), none, some (.aaload, 0, 0, []), some (.invokevirtual 26, 0, 25, []), none],
  [none, some (.aload_n 0, 0, 0, []), some (.aload_n 1, 0, 0, []), some (.iload 5, 0, 0, []), none, some (.aaload, 0, 0, []), some (.aload_n 3, 0, 0, []), some (.invokevirtual 32, 0, 65, []), none, none, some (.iinc 4 1, 0, 0, []), none, none, some (.goto (-48), 0, 0, []), none, none],
  [some (.return_, 0, 0, [false, false, false, false, false, false])]]
def ai_d64 : List (List (Option ai_N)) := [[some (.iconst 0, 0, 0, []), some (.istore_n 1, 0, 0, []), some (.iload_n 1, 0, 0, [true, true]), some (.bipush 8, 0, 0, []), none, some (.if_icmp .ge 29, 0, 0, []), none, none, some (.aload_n 0, 0, 0, [true, true]), some (.getfield 9, 4, 0, []), none, none, some (.iload_n 1, 0, 0, []), some (.baload, 0, 0, []), some (.ifCond .eq 14, 0, 0, []), none],
  [none, some (.aload_n 0, 0, 0, [true, true]), some (.getfield 15, 4, 1, []), none, none, some (.iload_n 1, 0, 0, []), some (.baload, 0, 0, []), some (.ifCond .ne 5, 0, 0, []), none, none, some (.iload_n 1, 0, 0, [false, true]), some (.ireturn, 0, 0, []), some (.iinc 1 1, 0, 0, [true, true]), none, none, some (.goto (-29), 0, 0, [])],
  [none, none, some (.iconst (-1), 0, 0, [false, false]), some (.ireturn, 0, 0, [])]]
def ai_d65 : List (List (Option ai_N)) := [[some (.iconst 0, 0, 0, []), some (.istore_n 3, 0, 0, []), some (.iload_n 3, 0, 0, [true, true, true, true]), some (.aload_n 1, 0, 0, []), some (.invokevirtual 36, 0, 1, []), none, none, some (.if_icmp .ge 33, 0, 0, []), none, none, some (.aload_n 2, 0, 0, [true, true, true, true]), some (.iload_n 3, 0, 0, []), some (.invokevirtual 41, 0, 16, []), none, none, some (.ifCond .eq 19, 0, 0, [])],
  [none, none, some (.aload_n 0, 0, 0, [true, true, true, true]), some (.aload_n 1, 0, 0, []), some (.iload_n 3, 0, 0, []), some (.iconst 0, 0, 0, []), some (.invokevirtual 45, 0, 4, []), none, none, some (.aload_n 1, 0, 0, []), some (.iload_n 3, 0, 0, []), some (.iconst 2, 0, 0, []), some (.invokevirtual 45, 0, 4, []), none, none, some (.invokevirtual 49, 0, 66, [])],
  [none, none, some (.iinc 3 1, 0, 0, [true, true, true, true]), none, none, some (.goto (-35), 0, 0, []), none, none, some (.return_, 0, 0, [false, false, false, false])]]
def ai_d66 : List (List (Option ai_N)) := [[some (.iload_n 1, 0, 0, []), some (.tableswitch 63 7 9 #[37, 50, 27], 0, 0, []), none, none, none, none, none, none, none, none, none, none, none, none, none, none],
  [none, none, none, none, none, none, none, none, none, none, none, none, some (.aload_n 0, 0, 0, [true, false, true]), some (.getfield 9, 4, 0, []), none, none],
  [some (.iload_n 2, 0, 0, []), some (.iconst 1, 0, 0, []), some (.bastore, 0, 0, []), some (.goto 29, 0, 0, []), none, none, some (.aload_n 0, 0, 0, [true, false, true]), some (.getfield 18, 4, 2, []), none, none, some (.iload_n 2, 0, 0, []), some (.dup2, 0, 0, []), some (.iaload, 0, 0, []), some (.iconst 1, 0, 0, []), some (.ior, 0, 0, []), some (.iastore, 0, 0, [])],
  [some (.goto 16, 0, 0, []), none, none, some (.aload_n 0, 0, 0, [true, false, true]), some (.getfield 18, 4, 2, []), none, none, some (.iload_n 2, 0, 0, []), some (.dup2, 0, 0, []), some (.iaload, 0, 0, []), some (.iconst 2, 0, 0, []), some (.ior, 0, 0, []), some (.iastore, 0, 0, []), some (.goto 3, 0, 0, []), none, none],
  [some (.return_, 0, 0, [false, false, false])]]
def ai_d67 : List (List (Option ai_N)) := [[some (.aload_n 0, 0, 0, []), some (.invokespecial 1, 9, 0, []), none, none, some (.aload_n 0, 0, 0, []), some (.bipush 8, 0, 0, []), none, some (.anewarray 9, 0, 0, []), none, none, some (.putfield 11, 5, 0, []), none, none, some (.aload_n 0, 0, 0, []), some (.bipush 8, 0, 0, []), none],
  [some (.anewarray 9, 0, 0, []), none, none, some (.putfield 15, 5, 1, []), none, none, some (.aload_n 0, 0, 0, []), some (.bipush 8, 0, 0, []), none, some (.newarray .boolean, 0, 0, []), none, some (.putfield 18, 5, 2, []), none, none, some (.aload_n 0, 0, 0, []), some (.new 22, 1, 0, [])],
  [none, none, some (.dup, 0, 0, []), some (.invokespecial 24, 5, 15, []), none, none, some (.putfield 25, 5, 3, []), none, none, some (.aload_n 0, 0, 0, []), some (.new 29, 4, 0, []), none, none, some (.dup, 0, 0, []), some (.invokespecial 31, 5, 60, []), none],
  [none, some (.putfield 32, 5, 4, []), none, none, some (.aload_n 0, 0, 0, []), some (.new 36, 3, 0, []), none, none, some (.dup, 0, 0, []), some (.invokespecial 38, 5, 54, []), none, none, some (.putfield 39, 5, 5, []), none, none, some (.aload_n 0, 0, 0, [])],
  [some (.new 43, 2, 0, []), none, none, some (.dup, 0, 0, []), some (.invokespecial 45, 5, 35, []), none, none, some (.putfield 46, 5, 6, []), none, none, some (.iconst 0, 0, 0, []), some (.istore_n 1, 0, 0, []), some (.iload_n 1, 0, 0, [true, true]), some (.bipush 8, 0, 0, []), none, some (.if_icmp .ge 35, 0, 0, [])],
  [none, none, some (.aload_n 0, 0, 0, [true, true]), some (.getfield 11, 5, 0, []), none, none, some (.iload_n 1, 0, 0, []), some (.new 9, 0, 0, []), none, none, some (.dup, 0, 0, []), some (.invokespecial 50, 5, 0, []), none, none, some (.aastore, 0, 0, []), some (.aload_n 0, 0, 0, [])],
  [some (.getfield 15, 5, 1, []), none, none, some (.iload_n 1, 0, 0, []), some (.new 9, 0, 0, []), none, none, some (.dup, 0, 0, []), some (.invokespecial 50, 5, 0, []), none, none, some (.aastore, 0, 0, []), some (.iinc 1 1, 0, 0, []), none, none, some (.goto (-35), 0, 0, [])],
  [none, none, some (.return_, 0, 0, [false, false])]]
def ai_d68 : List (List (Option ai_N)) := [[some (.iload_n 1, 0, 0, []), some (.invokestatic 51, 1, 87, []), none, none, some (.ifCond .eq 13, 0, 0, []), none, none, some (.iload_n 2, 0, 0, [true, true, true, true, true, true]), some (.ifCond .lt 9, 0, 0, []), none, none, some (.iload_n 2, 0, 0, [true, true, true, true, true, true]), some (.bipush 13, 0, 0, []), none, some (.if_icmp .lt 6, 0, 0, []), none],
  [none, some (.bipush (-101), 0, 0, [false, false, false, false, false, false]), none, some (.ireturn, 0, 0, []), some (.iload_n 2, 0, 0, [true, true, true, true, true, true]), some (.iconst 1, 0, 0, []), some (.iload_n 3, 0, 0, []), some (.invokestatic 55, 1, 91, []), none, none, some (.ifCond .eq 23, 0, 0, []), none, none, some (.iload_n 2, 0, 0, [true, true, true, true, true, true]), some (.iconst 2, 0, 0, []), some (.iload 4, 0, 0, [])],
  [none, some (.invokestatic 55, 1, 91, []), none, none, some (.ifCond .eq 13, 0, 0, []), none, none, some (.iload_n 2, 0, 0, [true, true, true, true, true, true]), some (.iconst 3, 0, 0, []), some (.iload 5, 0, 0, []), none, some (.invokestatic 55, 1, 91, []), none, none, some (.ifCond .ne 6, 0, 0, []), none],
  [none, some (.bipush (-101), 0, 0, [false, false, false, false, false, false]), none, some (.ireturn, 0, 0, []), some (.iload_n 2, 0, 0, [true, true, true, true, true, true]), some (.iconst 1, 0, 0, []), some (.iload_n 3, 0, 0, []), some (.invokestatic 59, 1, 92, []), none, none, some (.ifCond .eq 23, 0, 0, []), none, none, some (.iload_n 2, 0, 0, [true, true, true, true, true, true]), some (.iconst 2, 0, 0, []), some (.iload 4, 0, 0, [])],
  [none, some (.invokestatic 59, 1, 92, []), none, none, some (.ifCond .eq 13, 0, 0, []), none, none, some (.iload_n 2, 0, 0, [true, true, true, true, true, true]), some (.iconst 3, 0, 0, []), some (.iload 5, 0, 0, []), none, some (.invokestatic 59, 1, 92, []), none, none, some (.ifCond .ne 6, 0, 0, []), none],
  [none, some (.bipush (-102), 0, 0, [false, false, false, false, false, false]), none, some (.ireturn, 0, 0, []), some (.aload_n 0, 0, 0, [true, true, true, true, true, true]), some (.getfield 11, 5, 0, []), none, none, some (.iload_n 1, 0, 0, []), some (.aaload, 0, 0, []), some (.invokevirtual 62, 0, 3, []), none, none, some (.ifCond .eq 6, 0, 0, []), none, none],
  [some (.bipush (-104), 0, 0, [false, false, false, false, false, false]), none, some (.ireturn, 0, 0, []), some (.aload_n 0, 0, 0, [true, true, true, true, true, true]), some (.getfield 11, 5, 0, []), none, none, some (.iload_n 1, 0, 0, []), some (.aaload, 0, 0, []), some (.iload_n 2, 0, 0, []), some (.iload_n 3, 0, 0, []), some (.iload 4, 0, 0, []), none, some (.iload 5, 0, 0, []), none, some (.invokevirtual 66, 0, 5, [])],
  [none, none, some (.ireturn, 0, 0, [])]]
def ai_d69 : List (List (Option ai_N)) := [[some (.iload_n 1, 0, 0, []), some (.invokestatic 51, 1, 87, []), none, none, some (.ifCond .eq 15, 0, 0, []), none, none, some (.aload_n 0, 0, 0, [true, true]), some (.getfield 11, 5, 0, []), none, none, some (.iload_n 1, 0, 0, []), some (.aaload, 0, 0, []), some (.invokevirtual 70, 0, 7, []), none, none],
  [some (.goto 5, 0, 0, []), none, none, some (.bipush (-101), 0, 0, [false, false]), none, some (.ireturn, 0, 0, [false, false])]]
def ai_d70 : List (List (Option ai_N)) := [[some (.iload_n 1, 0, 0, []), some (.invokestatic 51, 1, 87, []), none, none, some (.ifCond .ne 6, 0, 0, []), none, none, some (.bipush (-101), 0, 0, [false, false, false, false]), none, some (.ireturn, 0, 0, []), some (.aload_n 0, 0, 0, [true, true, true, false]), some (.getfield 18, 5, 2, []), none, none, some (.iload_n 1, 0, 0, []), some (.baload, 0, 0, [])],
  [some (.istore_n 3, 0, 0, []), some (.aload_n 0, 0, 0, []), some (.getfield 18, 5, 2, []), none, none, some (.iload_n 1, 0, 0, []), some (.iload_n 2, 0, 0, []), some (.bastore, 0, 0, []), some (.iload_n 3, 0, 0, []), some (.iload_n 2, 0, 0, []), some (.if_icmp .ne 7, 0, 0, []), none, none, some (.iconst 0, 0, 0, [false, false, false, false]), some (.goto 4, 0, 0, []), none],
  [none, some (.iconst 1, 0, 0, [false, false, false, false]), some (.ireturn, 0, 0, [false, false, false, false])]]
def ai_d71 : List (List (Option ai_N)) := [[some (.aload_n 0, 0, 0, []), some (.getfield 32, 5, 4, []), none, none, some (.aload_n 0, 0, 0, []), some (.getfield 11, 5, 0, []), none, none, some (.aload_n 0, 0, 0, []), some (.getfield 18, 5, 2, []), none, none, some (.aload_n 0, 0, 0, []), some (.getfield 25, 5, 3, []), none, none],
  [some (.invokevirtual 74, 0, 63, []), none, none, some (.iconst 0, 0, 0, []), some (.istore_n 1, 0, 0, []), some (.iconst 0, 0, 0, []), some (.istore_n 2, 0, 0, []), some (.iload_n 2, 0, 0, [true, true, true]), some (.bipush 8, 0, 0, []), none, some (.if_icmp .ge 84, 0, 0, []), none, none, some (.aload_n 0, 0, 0, [true, true, true]), some (.getfield 15, 5, 1, []), none],
  [none, some (.iload_n 2, 0, 0, []), some (.aaload, 0, 0, []), some (.invokevirtual 70, 0, 7, []), none, none, some (.pop, 0, 0, []), some (.aload_n 0, 0, 0, []), some (.getfield 32, 5, 4, []), none, none, some (.iload_n 2, 0, 0, []), some (.invokevirtual 78, 0, 61, []), none, none, some (.ifCond .eq 35, 0, 0, [])],
  [none, none, some (.aload_n 0, 0, 0, [true, true, true]), some (.getfield 15, 5, 1, []), none, none, some (.iload_n 2, 0, 0, []), some (.aaload, 0, 0, []), some (.aload_n 0, 0, 0, []), some (.getfield 11, 5, 0, []), none, none, some (.iload_n 2, 0, 0, []), some (.aaload, 0, 0, []), some (.invokevirtual 81, 0, 9, []), none],
  [none, some (.aload_n 0, 0, 0, []), some (.getfield 39, 5, 5, []), none, none, some (.aload_n 0, 0, 0, []), some (.getfield 15, 5, 1, []), none, none, some (.iload_n 2, 0, 0, []), some (.aaload, 0, 0, []), some (.aload_n 0, 0, 0, []), some (.getfield 25, 5, 3, []), none, none, some (.invokevirtual 85, 0, 55, [])],
  [none, none, some (.iload_n 1, 0, 0, [true, true, true]), some (.aload_n 0, 0, 0, []), some (.getfield 11, 5, 0, []), none, none, some (.iload_n 2, 0, 0, []), some (.aaload, 0, 0, []), some (.invokevirtual 89, 0, 1, []), none, none, some (.aload_n 0, 0, 0, []), some (.getfield 15, 5, 1, []), none, none],
  [some (.iload_n 2, 0, 0, []), some (.aaload, 0, 0, []), some (.invokevirtual 89, 0, 1, []), none, none, some (.isub, 0, 0, []), some (.iadd, 0, 0, []), some (.istore_n 1, 0, 0, []), some (.iinc 2 1, 0, 0, []), none, none, some (.goto (-84), 0, 0, []), none, none, some (.aload_n 0, 0, 0, [true, true, false]), some (.iconst 1, 0, 0, [])],
  [some (.putfield 92, 5, 7, []), none, none, some (.iload_n 1, 0, 0, []), some (.ireturn, 0, 0, [])]]
def ai_d72 : List (List (Option ai_N)) := [[some (.aload_n 0, 0, 0, []), some (.iload_n 1, 0, 0, []), some (.iload_n 2, 0, 0, []), some (.invokevirtual 96, 0, 84, []), none, none, some (.istore 5, 0, 0, []), none, some (.iload 5, 0, 0, []), none, some (.ifCond .ge 8, 0, 0, []), none, none, some (.iload 5, 0, 0, [false, false, false, false, false, true]), none, some (.goto 19, 0, 0, [])],
  [none, none, some (.aload_n 0, 0, 0, [true, true, true, true, true, false]), some (.getfield 46, 5, 6, []), none, none, some (.aload_n 0, 0, 0, []), some (.iload_n 1, 0, 0, []), some (.invokevirtual 100, 0, 85, []), none, none, some (.iload_n 2, 0, 0, []), some (.iload_n 3, 0, 0, []), some (.iload 4, 0, 0, []), none, some (.invokevirtual 104, 0, 42, [])],
  [none, none, some (.ireturn, 0, 0, [false, false, false, false, false, false])]]
def ai_d73 : List (List (Option ai_N)) := [[some (.iload_n 1, 0, 0, []), some (.tableswitch 54 0 2 #[27, 36, 45], 0, 0, []), none, none, none, none, none, none, none, none, none, none, none, none, none, none],
  [none, none, none, none, none, none, none, none, none, none, none, none, some (.aload_n 0, 0, 0, [true, false]), some (.getfield 46, 5, 6, []), none, none],
  [some (.invokevirtual 108, 0, 36, []), none, none, some (.i2l, 0, 0, []), some (.lreturn, 0, 0, []), some (.aload_n 0, 0, 0, [true, false]), some (.getfield 46, 5, 6, []), none, none, some (.invokevirtual 111, 0, 37, []), none, none, some (.i2l, 0, 0, []), some (.lreturn, 0, 0, []), some (.aload_n 0, 0, 0, [true, false]), some (.getfield 46, 5, 6, [])],
  [none, none, some (.invokevirtual 114, 0, 38, []), none, none, some (.i2l, 0, 0, []), some (.lreturn, 0, 0, []), some (.iload_n 1, 0, 0, [true, true]), some (.iconst 3, 0, 0, []), some (.if_icmp .lt 23, 0, 0, []), none, none, some (.iload_n 1, 0, 0, [true, true]), some (.bipush 7, 0, 0, []), none, some (.if_icmp .ge 17, 0, 0, [])],
  [none, none, some (.aload_n 0, 0, 0, [true, true]), some (.getfield 46, 5, 6, []), none, none, some (.iload_n 1, 0, 0, []), some (.iconst 3, 0, 0, []), some (.isub, 0, 0, []), some (.invokevirtual 117, 0, 39, []), none, none, some (.i2l, 0, 0, []), some (.goto 6, 0, 0, []), none, none],
  [some (.ldc2_w 121, 18446744073709551514, 0, [false, false]), none, none, some (.lreturn, 0, 0, [false, false])]]
def ai_d74 : List (List (Option ai_N)) := [[some (.aload_n 0, 0, 0, []), some (.getfield 46, 5, 6, []), none, none, some (.iload_n 1, 0, 0, []), some (.invokevirtual 123, 0, 40, []), none, none, some (.ireturn, 0, 0, [])]]
def ai_d75 : List (List (Option ai_N)) := [[some (.aload_n 0, 0, 0, []), some (.iload_n 1, 0, 0, []), some (.iload_n 2, 0, 0, []), some (.invokevirtual 126, 0, 86, []), none, none, some (.ifCond .ne 6, 0, 0, []), none, none, some (.bipush (-101), 0, 0, [false, false, false]), none, some (.ireturn, 0, 0, []), some (.aload_n 0, 0, 0, [true, true, true]), some (.getfield 25, 5, 3, []), none, none],
  [some (.aload_n 0, 0, 0, []), some (.getfield 11, 5, 0, []), none, none, some (.iload_n 1, 0, 0, []), some (.aaload, 0, 0, []), some (.invokevirtual 130, 0, 25, []), none, none, some (.aload_n 0, 0, 0, []), some (.getfield 25, 5, 3, []), none, none, some (.aload_n 0, 0, 0, []), some (.getfield 11, 5, 0, []), none],
  [none, some (.iload_n 1, 0, 0, []), some (.aaload, 0, 0, []), some (.invokevirtual 133, 0, 32, []), none, none, some (.aload_n 0, 0, 0, []), some (.getfield 25, 5, 3, []), none, none, some (.aload_n 0, 0, 0, []), some (.getfield 11, 5, 0, []), none, none, some (.iload_n 1, 0, 0, []), some (.aaload, 0, 0, [])],
  [some (.iload_n 2, 0, 0, []), some (.invokevirtual 136, 0, 19, []), none, none, some (.ireturn, 0, 0, [])]]
def ai_d76 : List (List (Option ai_N)) := [[some (.aload_n 0, 0, 0, []), some (.iload_n 1, 0, 0, []), some (.iload_n 2, 0, 0, []), some (.invokevirtual 126, 0, 86, []), none, none, some (.ifCond .eq 10, 0, 0, []), none, none, some (.iload_n 3, 0, 0, [true, true, true, true]), some (.invokestatic 140, 1, 88, []), none, none, some (.ifCond .ne 7, 0, 0, []), none, none],
  [some (.ldc2_w 143, 18446744073709551515, 0, [false, false, false, false]), none, none, some (.lreturn, 0, 0, []), some (.aload_n 0, 0, 0, [true, true, true, true]), some (.getfield 25, 5, 3, []), none, none, some (.aload_n 0, 0, 0, []), some (.getfield 11, 5, 0, []), none, none, some (.iload_n 1, 0, 0, []), some (.aaload, 0, 0, []), some (.invokevirtual 130, 0, 25, []), none],
  [none, some (.aload_n 0, 0, 0, []), some (.getfield 25, 5, 3, []), none, none, some (.iload_n 2, 0, 0, []), some (.iload_n 3, 0, 0, []), some (.invokevirtual 145, 0, 17, []), none, none, some (.lreturn, 0, 0, [])]]
def ai_d77 : List (List (Option ai_N)) := [[some (.aload_n 0, 0, 0, []), some (.iload_n 1, 0, 0, []), some (.iload_n 2, 0, 0, []), some (.invokevirtual 126, 0, 86, []), none, none, some (.ifCond .eq 10, 0, 0, []), none, none, some (.iload_n 3, 0, 0, [true, true, true, true]), some (.invokestatic 140, 1, 88, []), none, none, some (.ifCond .ne 6, 0, 0, []), none, none],
  [some (.bipush (-101), 0, 0, [false, false, false, false]), none, some (.ireturn, 0, 0, []), some (.aload_n 0, 0, 0, [true, true, true, true]), some (.getfield 25, 5, 3, []), none, none, some (.aload_n 0, 0, 0, []), some (.getfield 11, 5, 0, []), none, none, some (.iload_n 1, 0, 0, []), some (.aaload, 0, 0, []), some (.invokevirtual 130, 0, 25, []), none, none],
  [some (.aload_n 0, 0, 0, []), some (.getfield 25, 5, 3, []), none, none, some (.aload_n 0, 0, 0, []), some (.getfield 11, 5, 0, []), none, none, some (.iload_n 1, 0, 0, []), some (.aaload, 0, 0, []), some (.invokevirtual 133, 0, 32, []), none, none, some (.aload_n 0, 0, 0, []), some (.getfield 25, 5, 3, []), none],
  [none, some (.iload_n 2, 0, 0, []), some (.iload_n 3, 0, 0, []), some (.invokevirtual 149, 0, 18, []), none, none, some (.ifCond .eq 7, 0, 0, []), none, none, some (.iconst 1, 0, 0, [false, false, false, false]), some (.goto 4, 0, 0, []), none, none, some (.iconst 0, 0, 0, [false, false, false, false]), some (.ireturn, 0, 0, [false, false, false, false])]]
def ai_d78 : List (List (Option ai_N)) := [[some (.iload_n 1, 0, 0, []), some (.invokestatic 51, 1, 87, []), none, none, some (.ifCond .ne 6, 0, 0, []), none, none, some (.bipush (-101), 0, 0, [false, false]), none, some (.ireturn, 0, 0, []), some (.aload_n 0, 0, 0, [true, true]), some (.getfield 32, 5, 4, []), none, none, some (.aload_n 0, 0, 0, []), some (.getfield 11, 5, 0, [])],
  [none, none, some (.aload_n 0, 0, 0, []), some (.getfield 18, 5, 2, []), none, none, some (.aload_n 0, 0, 0, []), some (.getfield 25, 5, 3, []), none, none, some (.invokevirtual 74, 0, 63, []), none, none, some (.aload_n 0, 0, 0, []), some (.getfield 32, 5, 4, []), none],
  [none, some (.iload_n 1, 0, 0, []), some (.invokevirtual 78, 0, 61, []), none, none, some (.ifCond .eq 7, 0, 0, []), none, none, some (.iconst 1, 0, 0, [false, false]), some (.goto 4, 0, 0, []), none, none, some (.iconst 0, 0, 0, [false, false]), some (.ireturn, 0, 0, [false, false])]]
def ai_d79 : List (List (Option ai_N)) := [[some (.iload_n 1, 0, 0, []), some (.invokestatic 152, 1, 89, []), none, none, some (.ifCond .ne 6, 0, 0, []), none, none, some (.bipush (-101), 0, 0, [false, false]), none, some (.ireturn, 0, 0, []), some (.aload_n 0, 0, 0, [true, true]), some (.getfield 32, 5, 4, []), none, none, some (.aload_n 0, 0, 0, []), some (.getfield 11, 5, 0, [])],
  [none, none, some (.aload_n 0, 0, 0, []), some (.getfield 18, 5, 2, []), none, none, some (.aload_n 0, 0, 0, []), some (.getfield 25, 5, 3, []), none, none, some (.invokevirtual 74, 0, 63, []), none, none, some (.aload_n 0, 0, 0, []), some (.getfield 32, 5, 4, []), none],
  [none, some (.iload_n 1, 0, 0, []), some (.invokevirtual 155, 0, 62, []), none, none, some (.ireturn, 0, 0, [])]]
def ai_d80 : List (List (Option ai_N)) := [[some (.iload_n 1, 0, 0, []), some (.invokestatic 51, 1, 87, []), none, none, some (.ifCond .ne 6, 0, 0, []), none, none, some (.bipush (-101), 0, 0, [false, false, false]), none, some (.ireturn, 0, 0, []), some (.iconst 0, 0, 0, [true, true, false]), some (.istore_n 2, 0, 0, []), some (.iload_n 2, 0, 0, [true, true, true]), some (.iload_n 1, 0, 0, []), some (.if_icmp .ge 29, 0, 0, []), none],
  [none, some (.aload_n 0, 0, 0, [true, true, true]), some (.getfield 11, 5, 0, []), none, none, some (.iload_n 2, 0, 0, []), some (.aaload, 0, 0, []), some (.aload_n 0, 0, 0, []), some (.getfield 11, 5, 0, []), none, none, some (.iload_n 1, 0, 0, []), some (.aaload, 0, 0, []), some (.invokevirtual 158, 0, 12, []), none, none],
  [some (.ifCond .eq 5, 0, 0, []), none, none, some (.iload_n 2, 0, 0, [false, false, true]), some (.ireturn, 0, 0, []), some (.iinc 2 1, 0, 0, [true, true, true]), none, none, some (.goto (-28), 0, 0, []), none, none, some (.iload_n 1, 0, 0, [false, true, false]), some (.ireturn, 0, 0, [])]]
def ai_d81 : List (List (Option ai_N)) := [[some (.aload_n 0, 0, 0, []), some (.iload_n 1, 0, 0, []), some (.iload_n 2, 0, 0, []), some (.invokevirtual 96, 0, 84, []), none, none, some (.istore_n 3, 0, 0, []), some (.iload_n 3, 0, 0, []), some (.ifCond .ge 7, 0, 0, []), none, none, some (.iload_n 3, 0, 0, [false, false, false, true]), some (.goto 13, 0, 0, []), none, none, some (.aload_n 0, 0, 0, [true, true, true, false])],
  [some (.iload_n 1, 0, 0, []), some (.invokevirtual 100, 0, 85, []), none, none, some (.iload_n 2, 0, 0, []), some (.aaload, 0, 0, []), some (.invokevirtual 89, 0, 1, []), none, none, some (.ireturn, 0, 0, [false, false, false, false])]]
def ai_d82 : List (List (Option ai_N)) := [[some (.iload_n 2, 0, 0, []), some (.invokestatic 51, 1, 87, []), none, none, some (.ifCond .eq 18, 0, 0, []), none, none, some (.iload 4, 0, 0, [true, true, true, true, true, false, false]), none, some (.ifCond .lt 9, 0, 0, []), none, none, some (.iload 4, 0, 0, [true, true, true, true, true, false, false]), none, some (.iconst 4, 0, 0, []), some (.if_icmp .lt 7, 0, 0, [])],
  [none, none, some (.ldc2_w 121, 18446744073709551514, 0, [false, false, false, false, false, false, false]), none, none, some (.lreturn, 0, 0, []), some (.aload_n 0, 0, 0, [true, true, true, true, true, false, false]), some (.iload_n 1, 0, 0, []), some (.iload_n 2, 0, 0, []), some (.invokevirtual 96, 0, 84, []), none, none, some (.istore 5, 0, 0, []), none, some (.iload 5, 0, 0, []), none],
  [some (.ifCond .ge 7, 0, 0, []), none, none, some (.iload 5, 0, 0, [false, false, false, false, false, true, false]), none, some (.i2l, 0, 0, []), some (.lreturn, 0, 0, []), some (.aload_n 0, 0, 0, [true, true, true, true, true, false, false]), some (.iload_n 1, 0, 0, []), some (.invokevirtual 100, 0, 85, []), none, none, some (.iload_n 2, 0, 0, []), some (.aaload, 0, 0, []), some (.astore 6, 0, 0, []), none],
  [some (.aload 6, 0, 0, []), none, some (.iload_n 3, 0, 0, []), some (.invokevirtual 162, 0, 2, []), none, none, some (.ifCond .eq 15, 0, 0, []), none, none, some (.aload 6, 0, 0, [false, false, false, true, true, false, true]), none, some (.iload_n 3, 0, 0, []), some (.iload 4, 0, 0, []), none, some (.invokevirtual 165, 0, 4, []), none],
  [none, some (.i2l, 0, 0, []), some (.goto 6, 0, 0, []), none, none, some (.ldc2_w 143, 18446744073709551515, 0, [false, false, false, false, false, false, false]), none, none, some (.lreturn, 0, 0, [false, false, false, false, false, false, false])]]
def ai_d83 : List (List (Option ai_N)) := [[some (.iconst 0, 0, 0, []), some (.istore_n 1, 0, 0, []), some (.iconst 0, 0, 0, []), some (.istore_n 2, 0, 0, []), some (.iload_n 2, 0, 0, [true, true, true]), some (.bipush 8, 0, 0, []), none, some (.if_icmp .ge 28, 0, 0, []), none, none, some (.iload_n 1, 0, 0, [true, true, true]), some (.aload_n 0, 0, 0, []), some (.getfield 11, 5, 0, []), none, none, some (.iload_n 2, 0, 0, [])],
  [some (.aaload, 0, 0, []), some (.invokevirtual 70, 0, 7, []), none, none, some (.iadd, 0, 0, []), some (.istore_n 1, 0, 0, []), some (.aload_n 0, 0, 0, []), some (.getfield 18, 5, 2, []), none, none, some (.iload_n 2, 0, 0, []), some (.iconst 0, 0, 0, []), some (.bastore, 0, 0, []), some (.iinc 2 1, 0, 0, []), none, none],
  [some (.goto (-28), 0, 0, []), none, none, some (.aload_n 0, 0, 0, [true, true, false]), some (.iconst 0, 0, 0, []), some (.putfield 92, 5, 7, []), none, none, some (.aload_n 0, 0, 0, []), some (.getfield 46, 5, 6, []), none, none, some (.invokevirtual 168, 0, 41, []), none, none, some (.iload_n 1, 0, 0, [])],
  [some (.ireturn, 0, 0, [])]]
def ai_d84 : List (List (Option ai_N)) := [[some (.iload_n 2, 0, 0, []), some (.invokestatic 51, 1, 87, []), none, none, some (.ifCond .ne 6, 0, 0, []), none, none, some (.bipush (-101), 0, 0, [false, false, false]), none, some (.ireturn, 0, 0, []), some (.iload_n 1, 0, 0, [true, true, false]), some (.ifCond .eq 11, 0, 0, []), none, none, some (.iload_n 1, 0, 0, [true, true, false]), some (.iconst 1, 0, 0, [])],
  [some (.if_icmp .eq 6, 0, 0, []), none, none, some (.bipush (-102), 0, 0, [false, false, false]), none, some (.ireturn, 0, 0, []), some (.iload_n 1, 0, 0, [true, true, false]), some (.iconst 1, 0, 0, []), some (.if_icmp .ne 15, 0, 0, []), none, none, some (.aload_n 0, 0, 0, [true, false, false]), some (.getfield 92, 5, 7, []), none, none, some (.ifCond .ne 8, 0, 0, [])],
  [none, none, some (.bipush (-103), 0, 0, [false, false, false]), none, some (.goto 4, 0, 0, []), none, none, some (.iconst 0, 0, 0, [false, false, false]), some (.ireturn, 0, 0, [false, false, false])]]
def ai_d85 : List (List (Option ai_N)) := [[some (.iload_n 1, 0, 0, []), some (.ifCond .ne 10, 0, 0, []), none, none, some (.aload_n 0, 0, 0, [true, false]), some (.getfield 11, 5, 0, []), none, none, some (.goto 7, 0, 0, []), none, none, some (.aload_n 0, 0, 0, [true, false]), some (.getfield 15, 5, 1, []), none, none, some (.areturn, 0, 0, [false, false])]]
def ai_d86 : List (List (Option ai_N)) := [[some (.iload_n 1, 0, 0, []), some (.invokestatic 51, 1, 87, []), none, none, some (.ifCond .eq 20, 0, 0, []), none, none, some (.aload_n 0, 0, 0, [true, true, true]), some (.getfield 11, 5, 0, []), none, none, some (.iload_n 1, 0, 0, []), some (.aaload, 0, 0, []), some (.iload_n 2, 0, 0, []), some (.invokevirtual 162, 0, 2, []), none],
  [none, some (.ifCond .eq 7, 0, 0, []), none, none, some (.iconst 1, 0, 0, [false, false, false]), some (.goto 4, 0, 0, []), none, none, some (.iconst 0, 0, 0, [false, false, false]), some (.ireturn, 0, 0, [false, false, false])]]
def ai_d87 : List (List (Option ai_N)) := [[some (.iload_n 0, 0, 0, []), some (.ifCond .lt 13, 0, 0, []), none, none, some (.iload_n 0, 0, 0, [true]), some (.bipush 8, 0, 0, []), none, some (.if_icmp .ge 7, 0, 0, []), none, none, some (.iconst 1, 0, 0, [false]), some (.goto 4, 0, 0, []), none, none, some (.iconst 0, 0, 0, [false]), some (.ireturn, 0, 0, [false])]]
def ai_d88 : List (List (Option ai_N)) := [[some (.iload_n 0, 0, 0, []), some (.ifCond .lt 12, 0, 0, []), none, none, some (.iload_n 0, 0, 0, [true]), some (.iconst 4, 0, 0, []), some (.if_icmp .ge 7, 0, 0, []), none, none, some (.iconst 1, 0, 0, [false]), some (.goto 4, 0, 0, []), none, none, some (.iconst 0, 0, 0, [false]), some (.ireturn, 0, 0, [false])]]
def ai_d89 : List (List (Option ai_N)) := [[some (.iload_n 0, 0, 0, []), some (.ifCond .lt 12, 0, 0, []), none, none, some (.iload_n 0, 0, 0, [true]), some (.iconst 4, 0, 0, []), some (.if_icmp .ge 7, 0, 0, []), none, none, some (.iconst 1, 0, 0, [false]), some (.goto 4, 0, 0, []), none, none, some (.iconst 0, 0, 0, [false]), some (.ireturn, 0, 0, [false])]]
def ai_d90 : List (List (Option ai_N)) := [[some (.getstatic 171, 1, 0, []), none, none, some (.iload_n 0, 0, 0, []), some (.iconst 3, 0, 0, []), some (.imul, 0, 0, []), some (.iload_n 1, 0, 0, []), some (.iadd, 0, 0, []), some (.iconst 1, 0, 0, []), some (.isub, 0, 0, []), some (.iaload, 0, 0, []), some (.ireturn, 0, 0, [])]]
def ai_d91 : List (List (Option ai_N)) := [[some (.iload_n 0, 0, 0, []), some (.iload_n 1, 0, 0, []), some (.invokestatic 175, 1, 90, []), none, none, some (.tableswitch 42 2 4 #[27, 32, 37], 0, 0, []), none, none, none, none, none, none, none, none, none, none],
  [none, none, none, none, none, none, none, none, none, none, none, none, none, none, none, none],
  [some (.iload_n 2, 0, 0, [false, false, true]), some (.invokestatic 140, 1, 88, []), none, none, some (.ireturn, 0, 0, []), some (.iload_n 2, 0, 0, [false, false, true]), some (.invokestatic 152, 1, 89, []), none, none, some (.ireturn, 0, 0, []), some (.iload_n 2, 0, 0, [false, false, true]), some (.invokestatic 51, 1, 87, []), none, none, some (.ireturn, 0, 0, []), some (.iconst 1, 0, 0, [false, false, false])],
  [some (.ireturn, 0, 0, [])]]
def ai_d92 : List (List (Option ai_N)) := [[some (.iload_n 0, 0, 0, []), some (.iload_n 1, 0, 0, []), some (.invokestatic 175, 1, 90, []), none, none, some (.iconst 5, 0, 0, []), some (.if_icmp .ne 13, 0, 0, []), none, none, some (.iload_n 2, 0, 0, [false, false, true]), some (.ifCond .lt 13, 0, 0, []), none, none, some (.iload_n 2, 0, 0, [false, false, true]), some (.bipush 24, 0, 0, []), none],
  [some (.if_icmp .gt 7, 0, 0, []), none, none, some (.iconst 1, 0, 0, [false, false, false]), some (.goto 4, 0, 0, []), none, none, some (.iconst 0, 0, 0, [false, false, false]), some (.ireturn, 0, 0, [false, false, false])]]
def ai_d93 : List (List (Option ai_N)) := [[some (.iload_n 0, 0, 0, []), some (.lookupswitch 35 #[(2, 27), (3, 31)], 0, 0, []), none, none, none, none, none, none, none, none, none, none, none, none, none, none],
  [none, none, none, none, none, none, none, none, none, none, none, none, some (.iload_n 1, 0, 0, [false, true, true]), some (.iload_n 2, 0, 0, []), some (.iadd, 0, 0, []), some (.ireturn, 0, 0, [])],
  [some (.iload_n 1, 0, 0, [false, true, true]), some (.iload_n 2, 0, 0, []), some (.imul, 0, 0, []), some (.ireturn, 0, 0, []), some (.iload_n 2, 0, 0, [false, true, true]), some (.ifCond .ne 7, 0, 0, []), none, none, some (.iconst 0, 0, 0, [false, false, false]), some (.goto 6, 0, 0, []), none, none, some (.iload_n 1, 0, 0, [false, true, true]), some (.iload_n 2, 0, 0, []), some (.idiv, 0, 0, []), some (.ireturn, 0, 0, [false, false, false])]]
def ai_d94 : List (List (Option ai_N)) := [[some (.aload_n 0, 0, 0, []), some (.invokespecial 1, 9, 0, []), none, none, some (.aload_n 0, 0, 0, []), some (.sipush 384, 0, 0, []), none, none, some (.newarray .int, 0, 0, []), none, some (.putfield 7, 6, 0, []), none, none, some (.aload_n 0, 0, 0, []), some (.sipush 384, 0, 0, []), none],
  [none, some (.newarray .int, 0, 0, []), none, some (.putfield 13, 6, 1, []), none, none, some (.aload_n 0, 0, 0, []), some (.sipush 384, 0, 0, []), none, none, some (.newarray .int, 0, 0, []), none, some (.putfield 16, 6, 2, []), none, none, some (.aload_n 0, 0, 0, [])],
  [some (.sipush 384, 0, 0, []), none, none, some (.newarray .int, 0, 0, []), none, some (.putfield 19, 6, 3, []), none, none, some (.aload_n 0, 0, 0, []), some (.bipush 16, 0, 0, []), none, some (.newarray .int, 0, 0, []), none, some (.putfield 22, 6, 4, []), none, none],
  [some (.aload_n 0, 0, 0, []), some (.bipush 8, 0, 0, []), none, some (.newarray .boolean, 0, 0, []), none, some (.putfield 25, 6, 5, []), none, none, some (.aload_n 0, 0, 0, []), some (.bipush 25, 0, 0, []), none, some (.newarray .boolean, 0, 0, []), none, some (.putfield 29, 6, 9, []), none, none],
  [some (.aload_n 0, 0, 0, []), some (.bipush 100, 0, 0, []), none, some (.newarray .long, 0, 0, []), none, some (.putfield 32, 6, 10, []), none, none, some (.aload_n 0, 0, 0, []), some (.iconst 4, 0, 0, []), some (.newarray .long, 0, 0, []), none, some (.putfield 36, 6, 12, []), none, none, some (.aload_n 0, 0, 0, [])],
  [some (.bipush 25, 0, 0, []), none, some (.newarray .int, 0, 0, []), none, some (.putfield 39, 6, 13, []), none, none, some (.aload_n 0, 0, 0, []), some (.bipush 26, 0, 0, []), none, some (.newarray .int, 0, 0, []), none, some (.putfield 42, 6, 14, []), none, none, some (.aload_n 0, 0, 0, [])],
  [some (.bipush 25, 0, 0, []), none, some (.newarray .boolean, 0, 0, []), none, some (.putfield 45, 6, 16, []), none, none, some (.aload_n 0, 0, 0, []), some (.bipush 25, 0, 0, []), none, some (.newarray .boolean, 0, 0, []), none, some (.putfield 48, 6, 17, []), none, none, some (.aload_n 0, 0, 0, [])],
  [some (.iconst 4, 0, 0, []), some (.newarray .int, 0, 0, []), none, some (.putfield 51, 6, 18, []), none, none, some (.aload_n 0, 0, 0, []), some (.bipush 60, 0, 0, []), none, some (.newarray .int, 0, 0, []), none, some (.putfield 54, 6, 19, []), none, none, some (.aload_n 0, 0, 0, []), some (.bipush 9, 0, 0, [])],
  [none, some (.newarray .int, 0, 0, []), none, some (.putfield 57, 6, 25, []), none, none, some (.aload_n 0, 0, 0, []), some (.bipush 9, 0, 0, []), none, some (.newarray .int, 0, 0, []), none, some (.putfield 60, 6, 26, []), none, none, some (.aload_n 0, 0, 0, []), some (.bipush 9, 0, 0, [])],
  [none, some (.newarray .int, 0, 0, []), none, some (.putfield 63, 6, 27, []), none, none, some (.aload_n 0, 0, 0, []), some (.bipush 36, 0, 0, []), none, some (.newarray .int, 0, 0, []), none, some (.putfield 66, 6, 28, []), none, none, some (.return_, 0, 0, [])]]
def ai_d95 : List (List (Option ai_N)) := [[some (.iload_n 0, 0, 0, []), some (.iload_n 1, 0, 0, []), some (.if_icmp .lt 12, 0, 0, []), none, none, some (.iload_n 0, 0, 0, [true, false, true]), some (.iload_n 2, 0, 0, []), some (.if_icmp .gt 7, 0, 0, []), none, none, some (.iconst 1, 0, 0, [false, false, false]), some (.goto 4, 0, 0, []), none, none, some (.iconst 0, 0, 0, [false, false, false]), some (.ireturn, 0, 0, [false, false, false])]]
def ai_d96 : List (List (Option ai_N)) := [[some (.iload_n 0, 0, 0, []), some (.iconst 0, 0, 0, []), some (.bipush 7, 0, 0, []), none, some (.invokestatic 69, 1, 95, []), none, none, some (.ireturn, 0, 0, [])]]
def ai_d97 : List (List (Option ai_N)) := [[some (.iload_n 0, 0, 0, []), some (.iconst 0, 0, 0, []), some (.iconst 3, 0, 0, []), some (.invokestatic 69, 1, 95, []), none, none, some (.ireturn, 0, 0, [])]]
def ai_d98 : List (List (Option ai_N)) := [[some (.bipush 24, 0, 0, []), none, some (.bipush 8, 0, 0, []), none, some (.iload_n 0, 0, 0, []), some (.imul, 0, 0, []), some (.iload_n 1, 0, 0, []), some (.iadd, 0, 0, []), some (.imul, 0, 0, []), some (.iload_n 2, 0, 0, []), some (.iadd, 0, 0, []), some (.ireturn, 0, 0, [])]]
def ai_d99 : List (List (Option ai_N)) := [[some (.iload_n 0, 0, 0, []), some (.tableswitch 79 0 9 #[55, 58, 61, 61, 61, 64, 67, 71, 71, 75], 0, 0, []), none, none, none, none, none, none, none, none, none, none, none, none, none, none],
  [none, none, none, none, none, none, none, none, none, none, none, none, none, none, none, none],
  [none, none, none, none, none, none, none, none, none, none, none, none, none, none, none, none],
  [none, none, none, none, none, none, none, none, some (.bipush 120, 0, 0, [false]), none, some (.ireturn, 0, 0, []), some (.bipush 110, 0, 0, [false]), none, some (.ireturn, 0, 0, []), some (.bipush 111, 0, 0, [false]), none],
  [some (.ireturn, 0, 0, []), some (.bipush 113, 0, 0, [false]), none, some (.ireturn, 0, 0, []), some (.sipush 300, 0, 0, [false]), none, none, some (.ireturn, 0, 0, []), some (.sipush 140, 0, 0, [false]), none, none, some (.ireturn, 0, 0, []), some (.sipush 150, 0, 0, [false]), none, none, some (.ireturn, 0, 0, [])],
  [some (.bipush 100, 0, 0, [false]), none, some (.ireturn, 0, 0, [])]]
def ai_d100 : List (List (Option ai_N)) := [[some (.iload_n 0, 0, 0, []), some (.invokestatic 73, 1, 99, []), none, none, some (.istore_n 2, 0, 0, []), some (.iload_n 1, 0, 0, []), some (.ifCond .ne 10, 0, 0, []), none, none, some (.iload_n 2, 0, 0, [false, false, true]), some (.bipush 100, 0, 0, []), none, some (.idiv, 0, 0, []), some (.goto 22, 0, 0, []), none, none],
  [some (.iload_n 1, 0, 0, [false, true, true]), some (.iconst 1, 0, 0, []), some (.if_icmp .ne 13, 0, 0, []), none, none, some (.iload_n 2, 0, 0, [false, false, true]), some (.bipush 10, 0, 0, []), none, some (.idiv, 0, 0, []), some (.bipush 10, 0, 0, []), none, some (.irem, 0, 0, []), some (.goto 7, 0, 0, []), none, none, some (.iload_n 2, 0, 0, [false, false, true])],
  [some (.bipush 10, 0, 0, []), none, some (.irem, 0, 0, []), some (.ireturn, 0, 0, [false, false, false])]]
def ai_d101 : List (List (Option ai_N)) := [[some (.iload_n 0, 0, 0, []), some (.ifCond .eq 35, 0, 0, []), none, none, some (.iload_n 0, 0, 0, [true, true]), some (.iconst 2, 0, 0, []), some (.if_icmp .eq 30, 0, 0, []), none, none, some (.iload_n 0, 0, 0, [true, true]), some (.iconst 3, 0, 0, []), some (.if_icmp .eq 25, 0, 0, []), none, none, some (.iload_n 0, 0, 0, [true, true]), some (.iconst 5, 0, 0, [])],
  [some (.if_icmp .ne 13, 0, 0, []), none, none, some (.iload_n 1, 0, 0, [false, true]), some (.invokestatic 77, 1, 96, []), none, none, some (.ifCond .eq 17, 0, 0, []), none, none, some (.goto 10, 0, 0, [false, false]), none, none, some (.iload_n 1, 0, 0, [false, true]), some (.invokestatic 81, 1, 97, []), none],
  [none, some (.ifCond .eq 7, 0, 0, []), none, none, some (.iconst 1, 0, 0, [false, false]), some (.goto 4, 0, 0, []), none, none, some (.iconst 0, 0, 0, [false, false]), some (.ireturn, 0, 0, [false, false])]]
def ai_d102 : List (List (Option ai_N)) := [[some (.iload_n 0, 0, 0, []), some (.iconst 3, 0, 0, []), some (.if_icmp .ne 17, 0, 0, []), none, none, some (.iload_n 1, 0, 0, [false, true]), some (.iconst 0, 0, 0, []), some (.bipush 24, 0, 0, []), none, some (.invokestatic 69, 1, 95, []), none, none, some (.ifCond .ne 7, 0, 0, []), none, none, some (.iconst 1, 0, 0, [false, false])],
  [some (.goto 4, 0, 0, []), none, none, some (.iconst 0, 0, 0, [false, false]), some (.ireturn, 0, 0, [false, false])]]
def ai_d103 : List (List (Option ai_N)) := [[some (.iload_n 1, 0, 0, []), some (.invokestatic 77, 1, 96, []), none, none, some (.ifCond .eq 13, 0, 0, []), none, none, some (.iload_n 2, 0, 0, [true, true, true, true, true, true, false, false, false, false]), some (.iconst 0, 0, 0, []), some (.bipush 12, 0, 0, []), none, some (.invokestatic 69, 1, 95, []), none, none, some (.ifCond .ne 6, 0, 0, []), none],
  [none, some (.bipush (-101), 0, 0, [false, false, false, false, false, false, false, false, false, false]), none, some (.ireturn, 0, 0, []), some (.iload_n 2, 0, 0, [true, true, true, true, true, true, false, false, false, false]), some (.iconst 0, 0, 0, []), some (.invokestatic 84, 1, 100, []), none, none, some (.istore 6, 0, 0, []), none, some (.iload_n 2, 0, 0, []), some (.iconst 1, 0, 0, []), some (.invokestatic 84, 1, 100, []), none, none],
  [some (.istore 7, 0, 0, []), none, some (.iload_n 2, 0, 0, []), some (.iconst 2, 0, 0, []), some (.invokestatic 84, 1, 100, []), none, none, some (.istore 8, 0, 0, []), none, some (.iload 6, 0, 0, []), none, some (.iload_n 3, 0, 0, []), some (.invokestatic 88, 1, 101, []), none, none, some (.ifCond .eq 23, 0, 0, [])],
  [none, none, some (.iload 7, 0, 0, [true, true, true, true, true, true, true, true, true, false]), none, some (.iload 4, 0, 0, []), none, some (.invokestatic 88, 1, 101, []), none, none, some (.ifCond .eq 13, 0, 0, []), none, none, some (.iload 8, 0, 0, [true, true, true, true, true, true, true, true, true, false]), none, some (.iload 5, 0, 0, []), none],
  [some (.invokestatic 88, 1, 101, []), none, none, some (.ifCond .ne 6, 0, 0, []), none, none, some (.bipush (-101), 0, 0, [false, false, false, false, false, false, false, false, false, false]), none, some (.ireturn, 0, 0, []), some (.iload 6, 0, 0, [true, true, true, true, true, true, true, true, true, false]), none, some (.iload_n 3, 0, 0, []), some (.invokestatic 92, 1, 102, []), none, none, some (.ifCond .ne 23, 0, 0, [])],
  [none, none, some (.iload 7, 0, 0, [true, true, true, true, true, true, true, true, true, false]), none, some (.iload 4, 0, 0, []), none, some (.invokestatic 92, 1, 102, []), none, none, some (.ifCond .ne 13, 0, 0, []), none, none, some (.iload 8, 0, 0, [true, true, true, true, true, true, true, true, true, false]), none, some (.iload 5, 0, 0, []), none],
  [some (.invokestatic 92, 1, 102, []), none, none, some (.ifCond .eq 6, 0, 0, []), none, none, some (.bipush (-102), 0, 0, [false, false, false, false, false, false, false, false, false, false]), none, some (.ireturn, 0, 0, []), some (.aload_n 0, 0, 0, [true, true, true, true, true, true, true, true, true, false]), some (.getfield 22, 6, 4, []), none, none, some (.iload_n 1, 0, 0, []), some (.iaload, 0, 0, []), some (.bipush 24, 0, 0, [])],
  [none, some (.if_icmp .ne 6, 0, 0, []), none, none, some (.bipush (-104), 0, 0, [false, false, false, false, false, false, false, false, false, false]), none, some (.ireturn, 0, 0, []), some (.iconst 0, 0, 0, [true, true, true, true, true, true, true, true, true, false]), some (.iload_n 1, 0, 0, []), some (.aload_n 0, 0, 0, []), some (.getfield 22, 6, 4, []), none, none, some (.iload_n 1, 0, 0, []), some (.iaload, 0, 0, []), some (.invokestatic 95, 1, 98, [])],
  [none, none, some (.istore 9, 0, 0, []), none, some (.aload_n 0, 0, 0, []), some (.getfield 7, 6, 0, []), none, none, some (.iload 9, 0, 0, []), none, some (.iload_n 2, 0, 0, []), some (.iastore, 0, 0, []), some (.aload_n 0, 0, 0, []), some (.getfield 13, 6, 1, []), none, none],
  [some (.iload 9, 0, 0, []), none, some (.iload 6, 0, 0, []), none, some (.ifCond .ne 7, 0, 0, []), none, none, some (.iconst 0, 0, 0, [true, true, false, false, true, true, false, true, true, true]), some (.goto 4, 0, 0, []), none, none, some (.iload_n 3, 0, 0, [true, true, false, true, true, true, false, true, true, true]), some (.iastore, 0, 0, [true, true, false, false, true, true, false, true, true, true]), some (.aload_n 0, 0, 0, []), some (.getfield 16, 6, 2, []), none],
  [none, some (.iload 9, 0, 0, []), none, some (.iload 7, 0, 0, []), none, some (.ifCond .ne 7, 0, 0, []), none, none, some (.iconst 0, 0, 0, [true, true, false, false, false, true, false, false, true, true]), some (.goto 5, 0, 0, []), none, none, some (.iload 4, 0, 0, [true, true, false, false, true, true, false, false, true, true]), none, some (.iastore, 0, 0, [true, true, false, false, false, true, false, false, true, true]), some (.aload_n 0, 0, 0, [])],
  [some (.getfield 19, 6, 3, []), none, none, some (.iload 9, 0, 0, []), none, some (.iload 8, 0, 0, []), none, some (.ifCond .ne 7, 0, 0, []), none, none, some (.iconst 0, 0, 0, [true, true, false, false, false, false, false, false, false, false]), some (.goto 5, 0, 0, []), none, none, some (.iload 5, 0, 0, [true, true, false, false, false, true, false, false, false, false]), none],
  [some (.iastore, 0, 0, [true, true, false, false, false, false, false, false, false, false]), some (.aload_n 0, 0, 0, []), some (.getfield 22, 6, 4, []), none, none, some (.iload_n 1, 0, 0, []), some (.dup2, 0, 0, []), some (.iaload, 0, 0, []), some (.iconst 1, 0, 0, []), some (.iadd, 0, 0, []), some (.iastore, 0, 0, []), some (.aload_n 0, 0, 0, []), some (.getfield 22, 6, 4, []), none, none, some (.iload_n 1, 0, 0, [])],
  [some (.iaload, 0, 0, []), some (.iconst 1, 0, 0, []), some (.isub, 0, 0, []), some (.ireturn, 0, 0, [])]]
def ai_d104 : List (List (Option ai_N)) := [[some (.iload_n 1, 0, 0, []), some (.invokestatic 77, 1, 96, []), none, none, some (.ifCond .ne 6, 0, 0, []), none, none, some (.bipush (-101), 0, 0, [false, false, false]), none, some (.ireturn, 0, 0, []), some (.aload_n 0, 0, 0, [true, true, false]), some (.getfield 22, 6, 4, []), none, none, some (.iload_n 1, 0, 0, []), some (.iaload, 0, 0, [])],
  [some (.istore_n 2, 0, 0, []), some (.aload_n 0, 0, 0, []), some (.getfield 22, 6, 4, []), none, none, some (.iload_n 1, 0, 0, []), some (.iconst 0, 0, 0, []), some (.iastore, 0, 0, []), some (.iload_n 2, 0, 0, []), some (.ireturn, 0, 0, [])]]
def ai_d105 : List (List (Option ai_N)) := [[some (.iload_n 1, 0, 0, []), some (.invokestatic 77, 1, 96, []), none, none, some (.ifCond .ne 6, 0, 0, []), none, none, some (.bipush (-101), 0, 0, [false, false, false, false]), none, some (.ireturn, 0, 0, []), some (.aload_n 0, 0, 0, [true, true, true, false]), some (.getfield 25, 6, 5, []), none, none, some (.iload_n 1, 0, 0, []), some (.baload, 0, 0, [])],
  [some (.iload_n 2, 0, 0, []), some (.if_icmp .ne 7, 0, 0, []), none, none, some (.iconst 0, 0, 0, [true, true, true, false]), some (.goto 4, 0, 0, []), none, none, some (.iconst 1, 0, 0, [true, true, true, false]), some (.istore_n 3, 0, 0, [true, true, true, false]), some (.aload_n 0, 0, 0, []), some (.getfield 25, 6, 5, []), none, none, some (.iload_n 1, 0, 0, []), some (.iload_n 2, 0, 0, [])],
  [some (.bastore, 0, 0, []), some (.iload_n 3, 0, 0, []), some (.ireturn, 0, 0, [])]]
def ai_d106 : List (List (Option ai_N)) := [[some (.iload_n 1, 0, 0, []), some (.aload_n 0, 0, 0, []), some (.getfield 99, 6, 7, []), none, none, some (.if_icmp .lt 4, 0, 0, []), none, none, some (.return_, 0, 0, [false, false, false, false, false]), some (.iconst 0, 0, 0, [true, true, false, false, false]), some (.istore_n 2, 0, 0, []), some (.iload_n 2, 0, 0, [true, true, true, false, false]), some (.iconst 4, 0, 0, []), some (.if_icmp .ge 111, 0, 0, []), none, none],
  [some (.aload_n 0, 0, 0, [true, true, true, false, false]), some (.getfield 29, 6, 9, []), none, none, some (.iload_n 1, 0, 0, []), some (.baload, 0, 0, []), some (.ifCond .ne 12, 0, 0, []), none, none, some (.aload_n 0, 0, 0, [true, true, true, false, false]), some (.getfield 36, 6, 12, []), none, none, some (.iload_n 2, 0, 0, []), some (.laload, 0, 0, []), some (.goto 35, 0, 0, [])],
  [none, none, some (.aload_n 0, 0, 0, [true, true, true, false, false]), some (.getfield 32, 6, 10, []), none, none, some (.iconst 4, 0, 0, []), some (.iload_n 1, 0, 0, []), some (.imul, 0, 0, []), some (.iload_n 2, 0, 0, []), some (.iadd, 0, 0, []), some (.laload, 0, 0, []), some (.aload_n 0, 0, 0, []), some (.getfield 36, 6, 12, []), none, none],
  [some (.iload_n 2, 0, 0, []), some (.laload, 0, 0, []), some (.lcmp, 0, 0, []), some (.ifCond .ne 12, 0, 0, []), none, none, some (.aload_n 0, 0, 0, [true, true, true, false, false]), some (.getfield 36, 6, 12, []), none, none, some (.iload_n 2, 0, 0, []), some (.laload, 0, 0, []), some (.goto 6, 0, 0, []), none, none, some (.ldc2_w 103, 1000000000000, 0, [true, true, true, false, false])],
  [none, none, some (.lstore_n 3, 0, 0, [true, true, true, false, false]), some (.aload_n 0, 0, 0, []), some (.aload_n 0, 0, 0, []), some (.getfield 105, 6, 11, []), none, none, some (.ifCond .ne 27, 0, 0, []), none, none, some (.aload_n 0, 0, 0, [true, true, true, true, false]), some (.getfield 29, 6, 9, []), none, none, some (.iload_n 1, 0, 0, [])],
  [some (.baload, 0, 0, []), some (.ifCond .eq 18, 0, 0, []), none, none, some (.lload_n 3, 0, 0, [true, true, true, true, false]), some (.aload_n 0, 0, 0, []), some (.getfield 32, 6, 10, []), none, none, some (.iconst 4, 0, 0, []), some (.iload_n 1, 0, 0, []), some (.imul, 0, 0, []), some (.iload_n 2, 0, 0, []), some (.iadd, 0, 0, []), some (.laload, 0, 0, []), some (.lcmp, 0, 0, [])],
  [some (.ifCond .eq 7, 0, 0, []), none, none, some (.iconst 1, 0, 0, [true, true, true, true, false]), some (.goto 4, 0, 0, []), none, none, some (.iconst 0, 0, 0, [true, true, true, true, false]), some (.putfield 105, 6, 11, [true, true, true, true, false]), none, none, some (.aload_n 0, 0, 0, []), some (.getfield 32, 6, 10, []), none, none, some (.iconst 4, 0, 0, [])],
  [some (.iload_n 1, 0, 0, []), some (.imul, 0, 0, []), some (.iload_n 2, 0, 0, []), some (.iadd, 0, 0, []), some (.lload_n 3, 0, 0, []), some (.lastore, 0, 0, []), some (.iinc 2 1, 0, 0, []), none, none, some (.goto (-110), 0, 0, []), none, none, some (.aload_n 0, 0, 0, [true, true, false, false, false]), some (.getfield 29, 6, 9, []), none, none],
  [some (.iload_n 1, 0, 0, []), some (.iconst 1, 0, 0, []), some (.bastore, 0, 0, []), some (.return_, 0, 0, [])]]
def ai_d107 : List (List (Option ai_N)) := [[some (.lload_n 1, 0, 0, []), some (.ldc2_w 103, 1000000000000, 0, []), none, none, some (.lcmp, 0, 0, []), some (.ifCond .eq 11, 0, 0, []), none, none, some (.lload_n 3, 0, 0, [true, true, false, true, false, false, false]), some (.ldc2_w 103, 1000000000000, 0, []), none, none, some (.lcmp, 0, 0, []), some (.ifCond .ne 7, 0, 0, []), none, none],
  [some (.ldc2_w 103, 1000000000000, 0, [false, false, false, false, false, false, false]), none, none, some (.lreturn, 0, 0, []), some (.lload_n 1, 0, 0, [true, true, false, true, false, false, false]), some (.l2i, 0, 0, []), some (.istore 5, 0, 0, []), none, some (.lload_n 3, 0, 0, []), some (.l2i, 0, 0, []), some (.istore 6, 0, 0, []), none, some (.iload_n 0, 0, 0, []), some (.iconst 2, 0, 0, []), some (.if_icmp .ne 12, 0, 0, []), none],
  [none, some (.iload 5, 0, 0, [false, false, false, false, false, true, true]), none, some (.iload 6, 0, 0, []), none, some (.iadd, 0, 0, []), some (.i2l, 0, 0, []), some (.goto 23, 0, 0, []), none, none, some (.iload_n 0, 0, 0, [true, false, false, false, false, true, true]), some (.iconst 3, 0, 0, []), some (.if_icmp .ne 12, 0, 0, []), none, none, some (.iload 5, 0, 0, [false, false, false, false, false, true, true])],
  [none, some (.iload 6, 0, 0, []), none, some (.imul, 0, 0, []), some (.i2l, 0, 0, []), some (.goto 9, 0, 0, []), none, none, some (.iload 5, 0, 0, [false, false, false, false, false, true, true]), none, some (.iload 6, 0, 0, []), none, some (.idiv, 0, 0, []), some (.i2l, 0, 0, []), some (.lreturn, 0, 0, [false, false, false, false, false, false, false])]]
def ai_d108 : List (List (Option ai_N)) := [[some (.aload_n 0, 0, 0, []), some (.getfield 32, 6, 10, []), none, none, some (.iconst 4, 0, 0, []), some (.iload_n 1, 0, 0, []), some (.imul, 0, 0, []), some (.aload_n 0, 0, 0, []), some (.getfield 13, 6, 1, []), none, none, some (.aload_n 0, 0, 0, []), some (.getfield 109, 6, 8, []), none, none, some (.iload_n 1, 0, 0, [])],
  [some (.iadd, 0, 0, []), some (.iaload, 0, 0, []), some (.iadd, 0, 0, []), some (.laload, 0, 0, []), some (.lstore_n 2, 0, 0, []), some (.aload_n 0, 0, 0, []), some (.getfield 32, 6, 10, []), none, none, some (.iconst 4, 0, 0, []), some (.iload_n 1, 0, 0, []), some (.imul, 0, 0, []), some (.aload_n 0, 0, 0, []), some (.getfield 16, 6, 2, []), none, none],
  [some (.aload_n 0, 0, 0, []), some (.getfield 109, 6, 8, []), none, none, some (.iload_n 1, 0, 0, []), some (.iadd, 0, 0, []), some (.iaload, 0, 0, []), some (.iadd, 0, 0, []), some (.laload, 0, 0, []), some (.lstore 4, 0, 0, []), none, some (.lload_n 2, 0, 0, []), some (.ldc2_w 103, 1000000000000, 0, []), none, none, some (.lcmp, 0, 0, [])],
  [some (.ifCond .eq 12, 0, 0, []), none, none, some (.lload 4, 0, 0, [false, false, true, false, true, false]), none, some (.ldc2_w 103, 1000000000000, 0, []), none, none, some (.lcmp, 0, 0, []), some (.ifCond .ne 7, 0, 0, []), none, none, some (.iconst (-1), 0, 0, [false, false, false, false, false, false]), some (.goto 15, 0, 0, []), none, none],
  [some (.lload_n 2, 0, 0, [false, false, true, false, true, false]), some (.lload 4, 0, 0, []), none, some (.lcmp, 0, 0, []), some (.ifCond .ge 7, 0, 0, []), none, none, some (.iconst 1, 0, 0, [false, false, false, false, false, false]), some (.goto 4, 0, 0, []), none, none, some (.iconst 0, 0, 0, [false, false, false, false, false, false]), some (.ireturn, 0, 0, [false, false, false, false, false, false])]]
def ai_d109 : List (List (Option ai_N)) := [[some (.aload_n 0, 0, 0, []), some (.getfield 109, 6, 8, []), none, none, some (.iload_n 1, 0, 0, []), some (.iadd, 0, 0, []), some (.istore_n 2, 0, 0, []), some (.aload_n 0, 0, 0, []), some (.getfield 7, 6, 0, []), none, none, some (.iload_n 2, 0, 0, []), some (.iaload, 0, 0, []), some (.tableswitch 116 4 11 #[90, 49, 47, 116, 116, 116, 47, 64], 0, 0, []), none, none],
  [none, none, none, none, none, none, none, none, none, none, none, none, none, none, none, none],
  [none, none, none, none, none, none, none, none, none, none, none, none, none, none, none, none],
  [none, none, none, none, none, none, none, none, none, none, none, none, some (.iconst 0, 0, 0, [false, false, false]), some (.ireturn, 0, 0, []), some (.aload_n 0, 0, 0, [true, true, false]), some (.iload_n 1, 0, 0, [])],
  [some (.invokevirtual 112, 0, 108, []), none, none, some (.iconst 1, 0, 0, []), some (.if_icmp .eq 7, 0, 0, []), none, none, some (.iconst 1, 0, 0, [false, false, false]), some (.goto 4, 0, 0, []), none, none, some (.iconst 0, 0, 0, [false, false, false]), some (.ireturn, 0, 0, [false, false, false]), some (.aload_n 0, 0, 0, [true, true, true]), some (.getfield 32, 6, 10, []), none],
  [none, some (.iconst 4, 0, 0, []), some (.iload_n 1, 0, 0, []), some (.imul, 0, 0, []), some (.aload_n 0, 0, 0, []), some (.getfield 13, 6, 1, []), none, none, some (.iload_n 2, 0, 0, []), some (.iaload, 0, 0, []), some (.iadd, 0, 0, []), some (.laload, 0, 0, []), some (.lconst 0, 0, 0, []), some (.lcmp, 0, 0, []), some (.ifCond .eq 7, 0, 0, []), none],
  [none, some (.iconst 1, 0, 0, [false, false, false]), some (.goto 4, 0, 0, []), none, none, some (.iconst 0, 0, 0, [false, false, false]), some (.ireturn, 0, 0, [false, false, false]), some (.aload_n 0, 0, 0, [true, true, true]), some (.getfield 32, 6, 10, []), none, none, some (.iconst 4, 0, 0, []), some (.iload_n 1, 0, 0, []), some (.imul, 0, 0, []), some (.aload_n 0, 0, 0, []), some (.getfield 19, 6, 3, [])],
  [none, none, some (.iload_n 2, 0, 0, []), some (.iaload, 0, 0, []), some (.iadd, 0, 0, []), some (.laload, 0, 0, []), some (.lconst 0, 0, 0, []), some (.lcmp, 0, 0, []), some (.ifCond .eq 7, 0, 0, []), none, none, some (.iconst 1, 0, 0, [false, false, false]), some (.goto 4, 0, 0, []), none, none, some (.iconst 0, 0, 0, [false, false, false])],
  [some (.ireturn, 0, 0, [false, false, false]), some (.iconst 1, 0, 0, [false, false, false]), some (.ireturn, 0, 0, [])]]
def ai_d110 : List (List (Option ai_N)) := [[some (.aload_n 0, 0, 0, []), some (.getfield 7, 6, 0, []), none, none, some (.aload_n 0, 0, 0, []), some (.getfield 109, 6, 8, []), none, none, some (.iload_n 1, 0, 0, []), some (.iadd, 0, 0, []), some (.iaload, 0, 0, []), some (.bipush 6, 0, 0, []), none, some (.if_icmp .eq 26, 0, 0, []), none, none],
  [some (.aload_n 0, 0, 0, [true, true]), some (.getfield 7, 6, 0, []), none, none, some (.aload_n 0, 0, 0, []), some (.getfield 109, 6, 8, []), none, none, some (.iload_n 1, 0, 0, []), some (.iadd, 0, 0, []), some (.iaload, 0, 0, []), some (.iconst 5, 0, 0, []), some (.if_icmp .ne 15, 0, 0, []), none, none, some (.aload_n 0, 0, 0, [true, true])],
  [some (.iload_n 1, 0, 0, []), some (.invokevirtual 112, 0, 108, []), none, none, some (.ifCond .eq 7, 0, 0, []), none, none, some (.iconst 1, 0, 0, [false, false]), some (.goto 4, 0, 0, []), none, none, some (.iconst 0, 0, 0, [false, false]), some (.ireturn, 0, 0, [false, false])]]
def ai_d111 : List (List (Option ai_N)) := [[some (.aload_n 0, 0, 0, []), some (.getfield 7, 6, 0, []), none, none, some (.aload_n 0, 0, 0, []), some (.getfield 109, 6, 8, []), none, none, some (.iload_n 1, 0, 0, []), some (.iadd, 0, 0, []), some (.iaload, 0, 0, []), some (.bipush 6, 0, 0, []), none, some (.if_icmp .ne 17, 0, 0, []), none, none],
  [some (.aload_n 0, 0, 0, [true, true]), some (.getfield 13, 6, 1, []), none, none, some (.aload_n 0, 0, 0, []), some (.getfield 109, 6, 8, []), none, none, some (.iload_n 1, 0, 0, []), some (.iadd, 0, 0, []), some (.iaload, 0, 0, []), some (.goto 14, 0, 0, []), none, none, some (.aload_n 0, 0, 0, [true, true]), some (.getfield 19, 6, 3, [])],
  [none, none, some (.aload_n 0, 0, 0, []), some (.getfield 109, 6, 8, []), none, none, some (.iload_n 1, 0, 0, []), some (.iadd, 0, 0, []), some (.iaload, 0, 0, []), some (.ireturn, 0, 0, [false, false])]]
def ai_d112 : List (List (Option ai_N)) := [[some (.aload_n 0, 0, 0, []), some (.getfield 109, 6, 8, []), none, none, some (.iload_n 1, 0, 0, []), some (.iadd, 0, 0, []), some (.istore_n 2, 0, 0, []), some (.aload_n 0, 0, 0, []), some (.getfield 7, 6, 0, []), none, none, some (.iload_n 2, 0, 0, []), some (.iaload, 0, 0, []), some (.istore_n 3, 0, 0, []), some (.iconst 0, 0, 0, []), some (.istore 4, 0, 0, [])],
  [none, some (.iload 4, 0, 0, [true, true, true, true, true]), none, some (.iconst 4, 0, 0, []), some (.if_icmp .ge 27, 0, 0, []), none, none, some (.aload_n 0, 0, 0, [true, true, true, true, true]), some (.getfield 36, 6, 12, []), none, none, some (.iload 4, 0, 0, []), none, some (.aload_n 0, 0, 0, []), some (.getfield 32, 6, 10, []), none],
  [none, some (.iconst 4, 0, 0, []), some (.iload_n 1, 0, 0, []), some (.imul, 0, 0, []), some (.iload 4, 0, 0, []), none, some (.iadd, 0, 0, []), some (.laload, 0, 0, []), some (.lastore, 0, 0, []), some (.iinc 4 1, 0, 0, []), none, none, some (.goto (-27), 0, 0, []), none, none, some (.aload_n 0, 0, 0, [true, true, true, true, false])],
  [some (.iload_n 1, 0, 0, []), some (.invokevirtual 115, 0, 110, []), none, none, some (.ifCond .eq 12, 0, 0, []), none, none, some (.aload_n 0, 0, 0, [true, true, true, true, false]), some (.aload_n 0, 0, 0, []), some (.iload_n 1, 0, 0, []), some (.invokevirtual 118, 0, 111, []), none, none, some (.invokevirtual 121, 0, 106, []), none, none],
  [some (.aload_n 0, 0, 0, [true, true, true, true, false]), some (.iload_n 1, 0, 0, []), some (.invokevirtual 125, 0, 109, []), none, none, some (.ifCond .ne 4, 0, 0, []), none, none, some (.return_, 0, 0, [false, false, false, false, false]), some (.iload_n 3, 0, 0, [true, true, true, true, false]), some (.ifCond .ne 24, 0, 0, []), none, none, some (.aload_n 0, 0, 0, [true, true, true, false, false]), some (.getfield 36, 6, 12, []), none],
  [none, some (.aload_n 0, 0, 0, []), some (.getfield 13, 6, 1, []), none, none, some (.iload_n 2, 0, 0, []), some (.iaload, 0, 0, []), some (.aload_n 0, 0, 0, []), some (.getfield 16, 6, 2, []), none, none, some (.iload_n 2, 0, 0, []), some (.iaload, 0, 0, []), some (.i2l, 0, 0, []), some (.lastore, 0, 0, []), some (.goto 126, 0, 0, [])],
  [none, none, some (.iload_n 3, 0, 0, [true, true, true, true, false]), some (.iconst 1, 0, 0, []), some (.if_icmp .ne 32, 0, 0, []), none, none, some (.aload_n 0, 0, 0, [true, true, true, false, false]), some (.getfield 36, 6, 12, []), none, none, some (.aload_n 0, 0, 0, []), some (.getfield 13, 6, 1, []), none, none, some (.iload_n 2, 0, 0, [])],
  [some (.iaload, 0, 0, []), some (.aload_n 0, 0, 0, []), some (.getfield 32, 6, 10, []), none, none, some (.iconst 4, 0, 0, []), some (.iload_n 1, 0, 0, []), some (.imul, 0, 0, []), some (.aload_n 0, 0, 0, []), some (.getfield 16, 6, 2, []), none, none, some (.iload_n 2, 0, 0, []), some (.iaload, 0, 0, []), some (.iadd, 0, 0, []), some (.laload, 0, 0, [])],
  [some (.lastore, 0, 0, []), some (.goto 92, 0, 0, []), none, none, some (.iload_n 3, 0, 0, [true, true, true, true, false]), some (.iconst 2, 0, 0, []), some (.if_icmp .eq 13, 0, 0, []), none, none, some (.iload_n 3, 0, 0, [true, true, true, true, false]), some (.iconst 3, 0, 0, []), some (.if_icmp .eq 8, 0, 0, []), none, none, some (.iload_n 3, 0, 0, [true, true, true, true, false]), some (.iconst 4, 0, 0, [])],
  [some (.if_icmp .ne 51, 0, 0, []), none, none, some (.aload_n 0, 0, 0, [true, true, true, true, false]), some (.getfield 36, 6, 12, []), none, none, some (.aload_n 0, 0, 0, []), some (.getfield 13, 6, 1, []), none, none, some (.iload_n 2, 0, 0, []), some (.iaload, 0, 0, []), some (.iload_n 3, 0, 0, []), some (.aload_n 0, 0, 0, []), some (.getfield 32, 6, 10, [])],
  [none, none, some (.iconst 4, 0, 0, []), some (.iload_n 1, 0, 0, []), some (.imul, 0, 0, []), some (.aload_n 0, 0, 0, []), some (.getfield 16, 6, 2, []), none, none, some (.iload_n 2, 0, 0, []), some (.iaload, 0, 0, []), some (.iadd, 0, 0, []), some (.laload, 0, 0, []), some (.aload_n 0, 0, 0, []), some (.getfield 32, 6, 10, []), none],
  [none, some (.iconst 4, 0, 0, []), some (.iload_n 1, 0, 0, []), some (.imul, 0, 0, []), some (.aload_n 0, 0, 0, []), some (.getfield 19, 6, 3, []), none, none, some (.iload_n 2, 0, 0, []), some (.iaload, 0, 0, []), some (.iadd, 0, 0, []), some (.laload, 0, 0, []), some (.invokestatic 128, 1, 107, []), none, none, some (.lastore, 0, 0, [])],
  [some (.goto 29, 0, 0, []), none, none, some (.iload_n 3, 0, 0, [true, true, true, true, false]), some (.bipush 7, 0, 0, []), none, some (.if_icmp .eq 9, 0, 0, []), none, none, some (.iload_n 3, 0, 0, [true, true, true, true, false]), some (.bipush 9, 0, 0, []), none, some (.if_icmp .ne 17, 0, 0, []), none, none, some (.aload_n 0, 0, 0, [true, true, true, false, false])],
  [some (.getfield 36, 6, 12, []), none, none, some (.aload_n 0, 0, 0, []), some (.getfield 13, 6, 1, []), none, none, some (.iload_n 2, 0, 0, []), some (.iaload, 0, 0, []), some (.ldc2_w 103, 1000000000000, 0, []), none, none, some (.lastore, 0, 0, []), some (.aload_n 0, 0, 0, [true, true, false, false, false]), some (.iload_n 1, 0, 0, []), some (.iconst 1, 0, 0, [])],
  [some (.iadd, 0, 0, []), some (.invokevirtual 121, 0, 106, []), none, none, some (.return_, 0, 0, [])]]
def ai_d113 : List (List (Option ai_N)) := [[some (.aload_n 0, 0, 0, []), some (.aload_n 0, 0, 0, []), some (.getfield 22, 6, 4, []), none, none, some (.bipush 8, 0, 0, []), none, some (.iload_n 1, 0, 0, []), some (.imul, 0, 0, []), some (.iload_n 2, 0, 0, []), some (.iadd, 0, 0, []), some (.iaload, 0, 0, []), some (.putfield 99, 6, 7, []), none, none, some (.aload_n 0, 0, 0, [])],
  [some (.iload_n 1, 0, 0, []), some (.iload_n 2, 0, 0, []), some (.iconst 0, 0, 0, []), some (.invokestatic 95, 1, 98, []), none, none, some (.putfield 109, 6, 8, []), none, none, some (.iconst 0, 0, 0, []), some (.istore_n 3, 0, 0, []), some (.iload_n 3, 0, 0, [true, false, false, true]), some (.bipush 24, 0, 0, []), none, some (.if_icmp .gt 16, 0, 0, []), none],
  [none, some (.aload_n 0, 0, 0, [true, false, false, true]), some (.getfield 29, 6, 9, []), none, none, some (.iload_n 3, 0, 0, []), some (.iconst 0, 0, 0, []), some (.bastore, 0, 0, []), some (.iinc 3 1, 0, 0, []), none, none, some (.goto (-16), 0, 0, []), none, none, some (.aload_n 0, 0, 0, [true, false, false, false]), some (.getfield 36, 6, 12, [])],
  [none, none, some (.iconst 0, 0, 0, []), some (.ldc2_w 103, 1000000000000, 0, []), none, none, some (.lastore, 0, 0, []), some (.aload_n 0, 0, 0, []), some (.getfield 36, 6, 12, []), none, none, some (.iconst 1, 0, 0, []), some (.ldc2_w 103, 1000000000000, 0, []), none, none, some (.lastore, 0, 0, [])],
  [some (.aload_n 0, 0, 0, []), some (.getfield 36, 6, 12, []), none, none, some (.iconst 2, 0, 0, []), some (.lconst 0, 0, 0, []), some (.lastore, 0, 0, []), some (.aload_n 0, 0, 0, []), some (.getfield 36, 6, 12, []), none, none, some (.iconst 3, 0, 0, []), some (.lconst 0, 0, 0, []), some (.lastore, 0, 0, []), some (.aload_n 0, 0, 0, []), some (.iconst 0, 0, 0, [])],
  [some (.putfield 105, 6, 11, []), none, none, some (.aload_n 0, 0, 0, []), some (.iconst 0, 0, 0, []), some (.invokevirtual 121, 0, 106, []), none, none, some (.aload_n 0, 0, 0, [true, false, false, false]), some (.getfield 105, 6, 11, []), none, none, some (.ifCond .eq 41, 0, 0, []), none, none, some (.aload_n 0, 0, 0, [true, false, false, false])],
  [some (.iconst 0, 0, 0, []), some (.putfield 105, 6, 11, []), none, none, some (.iconst 0, 0, 0, []), some (.istore_n 3, 0, 0, []), some (.iload_n 3, 0, 0, [true, false, false, true]), some (.aload_n 0, 0, 0, []), some (.getfield 99, 6, 7, []), none, none, some (.if_icmp .ge 23, 0, 0, []), none, none, some (.aload_n 0, 0, 0, [true, false, false, true]), some (.getfield 29, 6, 9, [])],
  [none, none, some (.iload_n 3, 0, 0, []), some (.baload, 0, 0, []), some (.ifCond .eq 8, 0, 0, []), none, none, some (.aload_n 0, 0, 0, [true, false, false, true]), some (.iload_n 3, 0, 0, []), some (.invokevirtual 132, 0, 112, []), none, none, some (.iinc 3 1, 0, 0, [true, false, false, true]), none, none, some (.goto (-25), 0, 0, [])],
  [none, none, some (.goto (-42), 0, 0, [true, false, false, false]), none, none, some (.return_, 0, 0, [false, false, false, false])]]
def ai_d114 : List (List (Option ai_N)) := [[some (.iconst 1, 0, 0, []), some (.aload_n 0, 0, 0, []), some (.getfield 13, 6, 1, []), none, none, some (.iload_n 1, 0, 0, []), some (.iaload, 0, 0, []), some (.ishl, 0, 0, []), some (.istore_n 2, 0, 0, []), some (.aload_n 0, 0, 0, []), some (.getfield 7, 6, 0, []), none, none, some (.iload_n 1, 0, 0, []), some (.iaload, 0, 0, []), some (.tableswitch 103 1 12 #[61, 70, 70, 70, 88, 103, 103, 101, 99, 101, 101, 101], 0, 0, [])],
  [none, none, none, none, none, none, none, none, none, none, none, none, none, none, none, none],
  [none, none, none, none, none, none, none, none, none, none, none, none, none, none, none, none],
  [none, none, none, none, none, none, none, none, none, none, none, none, none, none, none, none],
  [none, none, none, none, none, none, none, none, none, none, none, none, some (.iconst 1, 0, 0, [true, true, false]), some (.aload_n 0, 0, 0, []), some (.getfield 16, 6, 2, []), none],
  [none, some (.iload_n 1, 0, 0, []), some (.iaload, 0, 0, []), some (.ishl, 0, 0, []), some (.ireturn, 0, 0, []), some (.iconst 1, 0, 0, [true, true, false]), some (.aload_n 0, 0, 0, []), some (.getfield 16, 6, 2, []), none, none, some (.iload_n 1, 0, 0, []), some (.iaload, 0, 0, []), some (.ishl, 0, 0, []), some (.iconst 1, 0, 0, []), some (.aload_n 0, 0, 0, []), some (.getfield 19, 6, 3, [])],
  [none, none, some (.iload_n 1, 0, 0, []), some (.iaload, 0, 0, []), some (.ishl, 0, 0, []), some (.ior, 0, 0, []), some (.ireturn, 0, 0, []), some (.iload_n 2, 0, 0, [true, true, true]), some (.iconst 1, 0, 0, []), some (.aload_n 0, 0, 0, []), some (.getfield 16, 6, 2, []), none, none, some (.iload_n 1, 0, 0, []), some (.iaload, 0, 0, []), some (.ishl, 0, 0, [])],
  [some (.ior, 0, 0, []), some (.ireturn, 0, 0, []), some (.iconst 3, 0, 0, [false, false, false]), some (.ireturn, 0, 0, []), some (.iload_n 2, 0, 0, [false, false, true]), some (.ireturn, 0, 0, []), some (.iconst 0, 0, 0, [false, false, false]), some (.ireturn, 0, 0, [])]]
def ai_d115 : List (List (Option ai_N)) := [[some (.aload_n 0, 0, 0, []), some (.getfield 7, 6, 0, []), none, none, some (.iload_n 1, 0, 0, []), some (.iaload, 0, 0, []), some (.istore_n 2, 0, 0, []), some (.iload_n 2, 0, 0, []), some (.iconst 4, 0, 0, []), some (.if_icmp .le 15, 0, 0, []), none, none, some (.iload_n 2, 0, 0, [false, false, true]), some (.bipush 7, 0, 0, []), none, some (.if_icmp .eq 9, 0, 0, [])],
  [none, none, some (.iload_n 2, 0, 0, [false, false, true]), some (.bipush 9, 0, 0, []), none, some (.if_icmp .ne 7, 0, 0, []), none, none, some (.iconst 1, 0, 0, [false, false, false]), some (.goto 4, 0, 0, []), none, none, some (.iconst 0, 0, 0, [false, false, false]), some (.ireturn, 0, 0, [false, false, false])]]
def ai_d116 : List (List (Option ai_N)) := [[some (.aload_n 0, 0, 0, []), some (.iload_n 1, 0, 0, []), some (.iload_n 2, 0, 0, []), some (.invokevirtual 135, 0, 113, []), none, none, some (.iconst 0, 0, 0, []), some (.istore_n 3, 0, 0, []), some (.iload_n 3, 0, 0, [true, false, false, true, false, false, false, false]), some (.bipush 24, 0, 0, []), none, some (.if_icmp .gt 23, 0, 0, []), none, none, some (.aload_n 0, 0, 0, [true, false, false, true, false, false, false, false]), some (.getfield 42, 6, 14, [])],
  [none, none, some (.iload_n 3, 0, 0, []), some (.iconst 0, 0, 0, []), some (.iastore, 0, 0, []), some (.aload_n 0, 0, 0, []), some (.getfield 39, 6, 13, []), none, none, some (.iload_n 3, 0, 0, []), some (.iconst 0, 0, 0, []), some (.iastore, 0, 0, []), some (.iinc 3 1, 0, 0, []), none, none, some (.goto (-23), 0, 0, [])],
  [none, none, some (.iconst 1, 0, 0, [true, false, false, false, false, false, false, false]), some (.istore_n 3, 0, 0, []), some (.iload_n 3, 0, 0, [true, false, false, true, false, false, false, false]), some (.ifCond .eq 222, 0, 0, []), none, none, some (.iconst 0, 0, 0, [true, false, false, false, false, false, false, false]), some (.istore_n 3, 0, 0, []), some (.aload_n 0, 0, 0, []), some (.getfield 99, 6, 7, []), none, none, some (.iconst 1, 0, 0, []), some (.isub, 0, 0, [])],
  [some (.istore 4, 0, 0, []), none, some (.iload 4, 0, 0, [true, false, false, true, true, false, false, false]), none, some (.ifCond .lt 204, 0, 0, []), none, none, some (.aload_n 0, 0, 0, [true, false, false, true, true, false, false, false]), some (.getfield 29, 6, 9, []), none, none, some (.iload 4, 0, 0, []), none, some (.baload, 0, 0, []), some (.ifCond .eq 188, 0, 0, []), none],
  [none, some (.aload_n 0, 0, 0, [true, false, false, true, true, false, false, false]), some (.iload 4, 0, 0, []), none, some (.invokevirtual 125, 0, 109, []), none, none, some (.ifCond .eq 26, 0, 0, []), none, none, some (.iload 4, 0, 0, [true, false, false, true, true, false, false, false]), none, some (.iconst 1, 0, 0, []), some (.iadd, 0, 0, []), some (.aload_n 0, 0, 0, []), some (.getfield 99, 6, 7, [])],
  [none, none, some (.if_icmp .ge 15, 0, 0, []), none, none, some (.aload_n 0, 0, 0, [true, false, false, true, true, false, false, false]), some (.getfield 42, 6, 14, []), none, none, some (.iload 4, 0, 0, []), none, some (.iconst 1, 0, 0, []), some (.iadd, 0, 0, []), some (.iaload, 0, 0, []), some (.goto 4, 0, 0, []), none],
  [none, some (.iconst 0, 0, 0, [true, false, false, true, true, false, false, false]), some (.istore 5, 0, 0, [true, false, false, true, true, false, false, false]), none, some (.iload 5, 0, 0, []), none, some (.aload_n 0, 0, 0, []), some (.iload 4, 0, 0, []), none, some (.invokevirtual 115, 0, 110, []), none, none, some (.ifCond .eq 30, 0, 0, []), none, none, some (.aload_n 0, 0, 0, [true, false, false, true, true, false, false, false])],
  [some (.iload 4, 0, 0, []), none, some (.invokevirtual 118, 0, 111, []), none, none, some (.aload_n 0, 0, 0, []), some (.getfield 99, 6, 7, []), none, none, some (.if_icmp .ge 17, 0, 0, []), none, none, some (.aload_n 0, 0, 0, [true, false, false, true, true, false, false, false]), some (.getfield 42, 6, 14, []), none, none],
  [some (.aload_n 0, 0, 0, []), some (.iload 4, 0, 0, []), none, some (.invokevirtual 118, 0, 111, []), none, none, some (.iaload, 0, 0, []), some (.goto 4, 0, 0, []), none, none, some (.iconst 0, 0, 0, [true, false, false, true, true, false, false, false]), some (.ior, 0, 0, [true, false, false, true, true, false, false, false]), some (.istore 5, 0, 0, []), none, some (.aload_n 0, 0, 0, []), some (.aload_n 0, 0, 0, [])],
  [some (.getfield 109, 6, 8, []), none, none, some (.iload 4, 0, 0, []), none, some (.iadd, 0, 0, []), some (.invokevirtual 139, 0, 115, []), none, none, some (.ifCond .eq 25, 0, 0, []), none, none, some (.iload 5, 0, 0, [true, false, false, true, true, true, false, false]), none, some (.iconst 1, 0, 0, []), some (.aload_n 0, 0, 0, [])],
  [some (.getfield 13, 6, 1, []), none, none, some (.aload_n 0, 0, 0, []), some (.getfield 109, 6, 8, []), none, none, some (.iload 4, 0, 0, []), none, some (.iadd, 0, 0, []), some (.iaload, 0, 0, []), some (.ishl, 0, 0, []), some (.iconst (-1), 0, 0, []), some (.ixor, 0, 0, []), some (.iand, 0, 0, []), some (.goto 5, 0, 0, [])],
  [none, none, some (.iload 5, 0, 0, [true, false, false, true, true, true, false, false]), none, some (.istore 6, 0, 0, [true, false, false, true, true, true, false, false]), none, some (.aload_n 0, 0, 0, []), some (.aload_n 0, 0, 0, []), some (.getfield 109, 6, 8, []), none, none, some (.iload 4, 0, 0, []), none, some (.iadd, 0, 0, []), some (.invokevirtual 142, 0, 114, []), none],
  [none, some (.iload 6, 0, 0, []), none, some (.ior, 0, 0, []), some (.istore 7, 0, 0, []), none, some (.iload_n 3, 0, 0, []), some (.ifCond .ne 27, 0, 0, []), none, none, some (.iload 7, 0, 0, [true, false, false, false, true, true, false, true]), none, some (.aload_n 0, 0, 0, []), some (.getfield 42, 6, 14, []), none, none],
  [some (.iload 4, 0, 0, []), none, some (.iaload, 0, 0, []), some (.if_icmp .ne 15, 0, 0, []), none, none, some (.iload 5, 0, 0, [true, false, false, false, true, true, false, true]), none, some (.aload_n 0, 0, 0, []), some (.getfield 39, 6, 13, []), none, none, some (.iload 4, 0, 0, []), none, some (.iaload, 0, 0, []), some (.if_icmp .eq 7, 0, 0, [])],
  [none, none, some (.iconst 1, 0, 0, [true, false, false, false, true, true, false, true]), some (.goto 4, 0, 0, []), none, none, some (.iconst 0, 0, 0, [true, false, false, false, true, true, false, true]), some (.istore_n 3, 0, 0, [true, false, false, false, true, true, false, true]), some (.aload_n 0, 0, 0, []), some (.getfield 42, 6, 14, []), none, none, some (.iload 4, 0, 0, []), none, some (.iload 7, 0, 0, []), none],
  [some (.iastore, 0, 0, []), some (.aload_n 0, 0, 0, []), some (.getfield 39, 6, 13, []), none, none, some (.iload 4, 0, 0, []), none, some (.iload 5, 0, 0, []), none, some (.iastore, 0, 0, []), some (.iinc 4 (-1), 0, 0, [true, false, false, true, true, false, false, false]), none, none, some (.goto (-203), 0, 0, []), none, none],
  [some (.goto (-220), 0, 0, [true, false, false, true, false, false, false, false]), none, none, some (.return_, 0, 0, [false, false, false, false, false, false, false, false])]]
def ai_d117 : List (List (Option ai_N)) := [[some (.aload_n 0, 0, 0, []), some (.getfield 109, 6, 8, []), none, none, some (.iload_n 1, 0, 0, []), some (.iadd, 0, 0, []), some (.istore_n 2, 0, 0, []), some (.aload_n 0, 0, 0, []), some (.getfield 7, 6, 0, []), none, none, some (.iload_n 2, 0, 0, []), some (.iaload, 0, 0, []), some (.istore_n 3, 0, 0, []), some (.aload_n 0, 0, 0, []), some (.getfield 32, 6, 10, [])],
  [none, none, some (.iconst 4, 0, 0, []), some (.iload_n 1, 0, 0, []), some (.imul, 0, 0, []), some (.iload_n 3, 0, 0, []), some (.iconst 4, 0, 0, []), some (.if_icmp .ne 12, 0, 0, []), none, none, some (.aload_n 0, 0, 0, [true, true, true, true, false, false, false]), some (.getfield 19, 6, 3, []), none, none, some (.iload_n 2, 0, 0, []), some (.iaload, 0, 0, [])],
  [some (.goto 4, 0, 0, []), none, none, some (.iconst 0, 0, 0, [true, true, true, true, false, false, false]), some (.iadd, 0, 0, [true, true, true, true, false, false, false]), some (.laload, 0, 0, []), some (.lstore 4, 0, 0, []), none, some (.iload_n 3, 0, 0, []), some (.iconst 3, 0, 0, []), some (.if_icmp .le 30, 0, 0, []), none, none, some (.iload_n 3, 0, 0, [true, true, true, true, true, false, false]), some (.bipush 7, 0, 0, []), none],
  [some (.if_icmp .eq 24, 0, 0, []), none, none, some (.iload_n 3, 0, 0, [true, true, true, true, true, false, false]), some (.iconst 4, 0, 0, []), some (.if_icmp .ne 23, 0, 0, []), none, none, some (.lload 4, 0, 0, [true, true, true, false, true, false, false]), none, some (.ldc2_w 103, 1000000000000, 0, []), none, none, some (.lcmp, 0, 0, []), some (.ifCond .eq 14, 0, 0, []), none],
  [none, some (.lload 4, 0, 0, [true, true, true, false, true, false, false]), none, some (.lconst 0, 0, 0, []), some (.lcmp, 0, 0, []), some (.ifCond .eq 7, 0, 0, []), none, none, some (.iconst 1, 0, 0, [true, true, true, false, false, false, false]), some (.goto 4, 0, 0, []), none, none, some (.iconst 0, 0, 0, [true, true, true, false, false, false, false]), some (.istore 6, 0, 0, [true, true, true, false, false, false, false]), none, some (.iload 6, 0, 0, [])],
  [none, some (.ifCond .eq 25, 0, 0, []), none, none, some (.aload_n 0, 0, 0, [true, true, true, false, false, false, false]), some (.getfield 39, 6, 13, []), none, none, some (.iload_n 1, 0, 0, []), some (.iaload, 0, 0, []), some (.aload_n 0, 0, 0, []), some (.getfield 13, 6, 1, []), none, none, some (.iload_n 2, 0, 0, []), some (.iaload, 0, 0, [])],
  [some (.ishr, 0, 0, []), some (.iconst 1, 0, 0, []), some (.iand, 0, 0, []), some (.ifCond .ne 7, 0, 0, []), none, none, some (.iconst 1, 0, 0, [false, false, false, false, false, false, false]), some (.goto 4, 0, 0, []), none, none, some (.iconst 0, 0, 0, [false, false, false, false, false, false, false]), some (.ireturn, 0, 0, [false, false, false, false, false, false, false])]]
def ai_d118 : List (List (Option ai_N)) := [[some (.aload_n 0, 0, 0, []), some (.getfield 29, 6, 9, []), none, none, some (.iload_n 1, 0, 0, []), some (.baload, 0, 0, []), some (.ifCond .ne 5, 0, 0, []), none, none, some (.iconst 0, 0, 0, [false, false, false, false, false, false]), some (.ireturn, 0, 0, []), some (.aload_n 0, 0, 0, [true, true, false, false, false, false]), some (.getfield 7, 6, 0, []), none, none, some (.aload_n 0, 0, 0, [])],
  [some (.getfield 109, 6, 8, []), none, none, some (.iload_n 1, 0, 0, []), some (.iadd, 0, 0, []), some (.iaload, 0, 0, []), some (.istore_n 2, 0, 0, []), some (.iconst 1, 0, 0, []), some (.istore_n 3, 0, 0, []), some (.iload_n 2, 0, 0, []), some (.iconst 5, 0, 0, []), some (.if_icmp .ne 33, 0, 0, []), none, none, some (.aload_n 0, 0, 0, [true, true, true, true, false, false]), some (.iload_n 1, 0, 0, [])],
  [some (.invokevirtual 112, 0, 108, []), none, none, some (.istore 4, 0, 0, []), none, some (.iload_n 3, 0, 0, []), some (.iload 4, 0, 0, []), none, some (.iconst 1, 0, 0, []), some (.if_icmp .ne 7, 0, 0, []), none, none, some (.iconst 2, 0, 0, [true, true, true, false, false, false]), some (.goto 13, 0, 0, []), none, none],
  [some (.iload 4, 0, 0, [true, true, true, false, true, false]), none, some (.ifCond .ne 7, 0, 0, []), none, none, some (.iconst 4, 0, 0, [true, true, true, false, false, false]), some (.goto 4, 0, 0, []), none, none, some (.iconst 0, 0, 0, [true, true, true, false, false, false]), some (.iadd, 0, 0, [true, true, true, false, false, false]), some (.istore_n 3, 0, 0, []), some (.iload_n 2, 0, 0, [true, true, true, true, false, false]), some (.bipush 11, 0, 0, []), none, some (.if_icmp .ne 50, 0, 0, [])],
  [none, none, some (.aload_n 0, 0, 0, [true, true, false, true, false, false]), some (.getfield 32, 6, 10, []), none, none, some (.iconst 4, 0, 0, []), some (.iload_n 1, 0, 0, []), some (.imul, 0, 0, []), some (.aload_n 0, 0, 0, []), some (.getfield 13, 6, 1, []), none, none, some (.aload_n 0, 0, 0, []), some (.getfield 109, 6, 8, []), none],
  [none, some (.iload_n 1, 0, 0, []), some (.iadd, 0, 0, []), some (.iaload, 0, 0, []), some (.iadd, 0, 0, []), some (.laload, 0, 0, []), some (.lstore 4, 0, 0, []), none, some (.iload_n 3, 0, 0, []), some (.lload 4, 0, 0, []), none, some (.ldc2_w 103, 1000000000000, 0, []), none, none, some (.lcmp, 0, 0, []), some (.ifCond .eq 15, 0, 0, [])],
  [none, none, some (.lload 4, 0, 0, [true, true, false, false, true, false]), none, some (.lconst 0, 0, 0, []), some (.lcmp, 0, 0, []), some (.ifCond .eq 8, 0, 0, []), none, none, some (.bipush 16, 0, 0, [true, true, false, false, false, false]), none, some (.goto 4, 0, 0, []), none, none, some (.iconst 0, 0, 0, [true, true, false, false, false, false]), some (.iadd, 0, 0, [true, true, false, false, false, false])],
  [some (.istore_n 3, 0, 0, []), some (.iload_n 3, 0, 0, [true, true, false, true, false, false]), some (.aload_n 0, 0, 0, []), some (.iload_n 1, 0, 0, []), some (.invokevirtual 145, 0, 117, []), none, none, some (.ifCond .eq 8, 0, 0, []), none, none, some (.bipush 8, 0, 0, [false, false, false, false, false, false]), none, some (.goto 4, 0, 0, []), none, none, some (.iconst 0, 0, 0, [false, false, false, false, false, false])],
  [some (.iadd, 0, 0, [false, false, false, false, false, false]), some (.ireturn, 0, 0, [])]]
def ai_d119 : List (List (Option ai_N)) := [[some (.iload_n 1, 0, 0, []), some (.invokestatic 77, 1, 96, []), none, none, some (.ifCond .eq 23, 0, 0, []), none, none, some (.iload_n 2, 0, 0, [true, true, true]), some (.iconst 0, 0, 0, []), some (.aload_n 0, 0, 0, []), some (.getfield 22, 6, 4, []), none, none, some (.iload_n 1, 0, 0, []), some (.iaload, 0, 0, []), some (.iconst 1, 0, 0, [])],
  [some (.isub, 0, 0, []), some (.invokestatic 69, 1, 95, []), none, none, some (.ifCond .eq 7, 0, 0, []), none, none, some (.iconst 1, 0, 0, [false, false, false]), some (.goto 4, 0, 0, []), none, none, some (.iconst 0, 0, 0, [false, false, false]), some (.ireturn, 0, 0, [false, false, false])]]
def ai_d120 : List (List (Option ai_N)) := [[some (.aload_n 0, 0, 0, []), some (.iload_n 1, 0, 0, []), some (.iload_n 2, 0, 0, []), some (.invokevirtual 148, 0, 119, []), none, none, some (.ifCond .ne 6, 0, 0, []), none, none, some (.bipush (-101), 0, 0, [false, false, false]), none, some (.ireturn, 0, 0, []), some (.aload_n 0, 0, 0, [true, true, true]), some (.iconst 0, 0, 0, []), some (.iload_n 1, 0, 0, []), some (.invokevirtual 151, 0, 116, [])],
  [none, none, some (.aload_n 0, 0, 0, []), some (.iload_n 2, 0, 0, []), some (.invokevirtual 154, 0, 118, []), none, none, some (.ireturn, 0, 0, [])]]
def ai_d121 : List (List (Option ai_N)) := [[some (.aload_n 0, 0, 0, []), some (.iload_n 1, 0, 0, []), some (.iload_n 2, 0, 0, []), some (.invokevirtual 148, 0, 119, []), none, none, some (.ifCond .eq 10, 0, 0, []), none, none, some (.iload_n 3, 0, 0, [true, true, true, true]), some (.invokestatic 81, 1, 97, []), none, none, some (.ifCond .ne 7, 0, 0, []), none, none],
  [some (.ldc2_w 157, 18446744073709551515, 0, [false, false, false, false]), none, none, some (.lreturn, 0, 0, []), some (.aload_n 0, 0, 0, [true, true, true, true]), some (.iconst 0, 0, 0, []), some (.iload_n 1, 0, 0, []), some (.invokevirtual 135, 0, 113, []), none, none, some (.aload_n 0, 0, 0, []), some (.getfield 29, 6, 9, []), none, none, some (.iload_n 2, 0, 0, []), some (.baload, 0, 0, [])],
  [some (.ifCond .eq 16, 0, 0, []), none, none, some (.aload_n 0, 0, 0, [true, false, true, true]), some (.getfield 32, 6, 10, []), none, none, some (.iconst 4, 0, 0, []), some (.iload_n 2, 0, 0, []), some (.imul, 0, 0, []), some (.iload_n 3, 0, 0, []), some (.iadd, 0, 0, []), some (.laload, 0, 0, []), some (.goto 6, 0, 0, []), none, none],
  [some (.ldc2_w 159, 2000000000000, 0, [false, false, false, false]), none, none, some (.lreturn, 0, 0, [false, false, false, false])]]
def ai_d122 : List (List (Option ai_N)) := [[some (.aload_n 0, 0, 0, []), some (.iload_n 1, 0, 0, []), some (.iload_n 2, 0, 0, []), some (.invokevirtual 148, 0, 119, []), none, none, some (.ifCond .eq 10, 0, 0, []), none, none, some (.iload_n 3, 0, 0, [true, true, true, true]), some (.invokestatic 81, 1, 97, []), none, none, some (.ifCond .ne 6, 0, 0, []), none, none],
  [some (.bipush (-101), 0, 0, [false, false, false, false]), none, some (.ireturn, 0, 0, []), some (.aload_n 0, 0, 0, [true, true, true, true]), some (.iconst 0, 0, 0, []), some (.iload_n 1, 0, 0, []), some (.invokevirtual 151, 0, 116, []), none, none, some (.aload_n 0, 0, 0, []), some (.getfield 29, 6, 9, []), none, none, some (.iload_n 2, 0, 0, []), some (.baload, 0, 0, []), some (.ifCond .eq 16, 0, 0, [])],
  [none, none, some (.aload_n 0, 0, 0, [true, false, true, true]), some (.getfield 39, 6, 13, []), none, none, some (.iload_n 2, 0, 0, []), some (.iaload, 0, 0, []), some (.iload_n 3, 0, 0, []), some (.ishr, 0, 0, []), some (.iconst 1, 0, 0, []), some (.iand, 0, 0, []), some (.goto 4, 0, 0, []), none, none, some (.iconst 0, 0, 0, [false, false, false, false])],
  [some (.ireturn, 0, 0, [false, false, false, false])]]
def ai_d123 : List (List (Option ai_N)) := [[some (.aload_n 0, 0, 0, []), some (.iconst 0, 0, 0, []), some (.putfield 161, 6, 15, []), none, none, some (.iconst 0, 0, 0, []), some (.istore_n 1, 0, 0, []), some (.iload_n 1, 0, 0, [true, true, false, false]), some (.bipush 8, 0, 0, []), none, some (.if_icmp .ge 34, 0, 0, []), none, none, some (.aload_n 0, 0, 0, [true, true, false, false]), some (.dup, 0, 0, []), some (.getfield 161, 6, 15, [])],
  [none, none, some (.aload_n 0, 0, 0, []), some (.getfield 25, 6, 5, []), none, none, some (.iload_n 1, 0, 0, []), some (.baload, 0, 0, []), some (.ifCond .eq 9, 0, 0, []), none, none, some (.iconst 1, 0, 0, [true, true, false, false]), some (.iload_n 1, 0, 0, []), some (.ishl, 0, 0, []), some (.goto 4, 0, 0, []), none],
  [none, some (.iconst 0, 0, 0, [true, true, false, false]), some (.ior, 0, 0, [true, true, false, false]), some (.putfield 161, 6, 15, []), none, none, some (.iinc 1 1, 0, 0, []), none, none, some (.goto (-34), 0, 0, []), none, none, some (.iconst (-1), 0, 0, [true, false, false, false]), some (.istore_n 1, 0, 0, []), some (.iload_n 1, 0, 0, [true, true, false, false]), some (.aload_n 0, 0, 0, [])],
  [some (.getfield 161, 6, 15, []), none, none, some (.if_icmp .eq 107, 0, 0, []), none, none, some (.aload_n 0, 0, 0, [true, false, false, false]), some (.getfield 161, 6, 15, []), none, none, some (.istore_n 1, 0, 0, []), some (.iconst 0, 0, 0, []), some (.istore_n 2, 0, 0, []), some (.iload_n 2, 0, 0, [true, true, true, false]), some (.bipush 8, 0, 0, []), none],
  [some (.if_icmp .ge 91, 0, 0, []), none, none, some (.iload_n 1, 0, 0, [true, true, true, false]), some (.iload_n 2, 0, 0, []), some (.ishr, 0, 0, []), some (.iconst 1, 0, 0, []), some (.iand, 0, 0, []), some (.iconst 1, 0, 0, []), some (.if_icmp .ne 76, 0, 0, []), none, none, some (.aload_n 0, 0, 0, [true, true, true, false]), some (.iconst 0, 0, 0, []), some (.iload_n 2, 0, 0, []), some (.invokevirtual 135, 0, 113, [])],
  [none, none, some (.iconst 0, 0, 0, []), some (.istore_n 3, 0, 0, []), some (.iload_n 3, 0, 0, [true, true, true, true]), some (.aload_n 0, 0, 0, []), some (.getfield 99, 6, 7, []), none, none, some (.if_icmp .ge 60, 0, 0, []), none, none, some (.aload_n 0, 0, 0, [true, true, true, true]), some (.dup, 0, 0, []), some (.getfield 161, 6, 15, []), none],
  [none, some (.aload_n 0, 0, 0, []), some (.getfield 29, 6, 9, []), none, none, some (.iload_n 3, 0, 0, []), some (.baload, 0, 0, []), some (.ifCond .eq 35, 0, 0, []), none, none, some (.aload_n 0, 0, 0, [true, true, true, true]), some (.getfield 7, 6, 0, []), none, none, some (.aload_n 0, 0, 0, []), some (.getfield 109, 6, 8, [])],
  [none, none, some (.iload_n 3, 0, 0, []), some (.iadd, 0, 0, []), some (.iaload, 0, 0, []), some (.bipush 9, 0, 0, []), none, some (.if_icmp .ne 19, 0, 0, []), none, none, some (.iconst 1, 0, 0, [true, true, true, true]), some (.aload_n 0, 0, 0, []), some (.getfield 16, 6, 2, []), none, none, some (.aload_n 0, 0, 0, [])],
  [some (.getfield 109, 6, 8, []), none, none, some (.iload_n 3, 0, 0, []), some (.iadd, 0, 0, []), some (.iaload, 0, 0, []), some (.ishl, 0, 0, []), some (.goto 4, 0, 0, []), none, none, some (.iconst 0, 0, 0, [true, true, true, true]), some (.ior, 0, 0, [true, true, true, true]), some (.putfield 161, 6, 15, []), none, none, some (.iinc 3 1, 0, 0, [])],
  [none, none, some (.goto (-62), 0, 0, []), none, none, some (.iinc 2 1, 0, 0, [true, true, true, false]), none, none, some (.goto (-91), 0, 0, []), none, none, some (.goto (-109), 0, 0, [true, true, false, false]), none, none, some (.return_, 0, 0, [false, false, false, false])]]
def ai_d124 : List (List (Option ai_N)) := [[some (.iload_n 1, 0, 0, []), some (.invokestatic 77, 1, 96, []), none, none, some (.ifCond .ne 6, 0, 0, []), none, none, some (.bipush (-101), 0, 0, [false, false]), none, some (.ireturn, 0, 0, []), some (.aload_n 0, 0, 0, [true, true]), some (.invokevirtual 164, 0, 123, []), none, none, some (.aload_n 0, 0, 0, []), some (.getfield 161, 6, 15, [])],
  [none, none, some (.iload_n 1, 0, 0, []), some (.ishr, 0, 0, []), some (.iconst 1, 0, 0, []), some (.iand, 0, 0, []), some (.ireturn, 0, 0, [])]]
def ai_d125 : List (List (Option ai_N)) := [[some (.iload_n 1, 0, 0, []), some (.invokestatic 81, 1, 97, []), none, none, some (.ifCond .ne 6, 0, 0, []), none, none, some (.bipush (-101), 0, 0, [false, false, false, false, false, false, false]), none, some (.ireturn, 0, 0, []), some (.aload_n 0, 0, 0, [true, true, false, false, false, false, false]), some (.invokevirtual 164, 0, 123, []), none, none, some (.iconst 0, 0, 0, []), some (.istore_n 2, 0, 0, [])],
  [some (.iconst 0, 0, 0, []), some (.istore_n 3, 0, 0, []), some (.iload_n 3, 0, 0, [true, true, true, true, false, false, false]), some (.bipush 8, 0, 0, []), none, some (.if_icmp .ge 130, 0, 0, []), none, none, some (.aload_n 0, 0, 0, [true, true, true, true, false, false, false]), some (.getfield 161, 6, 15, []), none, none, some (.iload_n 3, 0, 0, []), some (.ishr, 0, 0, []), some (.iconst 1, 0, 0, []), some (.iand, 0, 0, [])],
  [some (.iconst 1, 0, 0, []), some (.if_icmp .ne 112, 0, 0, []), none, none, some (.aload_n 0, 0, 0, [true, true, true, true, false, false, false]), some (.iconst 0, 0, 0, []), some (.iload_n 3, 0, 0, []), some (.invokevirtual 135, 0, 113, []), none, none, some (.iconst 0, 0, 0, []), some (.istore 4, 0, 0, []), none, some (.iload 4, 0, 0, [true, true, true, true, true, false, false]), none, some (.aload_n 0, 0, 0, [])],
  [some (.getfield 99, 6, 7, []), none, none, some (.if_icmp .ge 94, 0, 0, []), none, none, some (.aload_n 0, 0, 0, [true, true, true, true, true, false, false]), some (.getfield 7, 6, 0, []), none, none, some (.aload_n 0, 0, 0, []), some (.getfield 109, 6, 8, []), none, none, some (.iload 4, 0, 0, []), none],
  [some (.iadd, 0, 0, []), some (.iaload, 0, 0, []), some (.istore 5, 0, 0, []), none, some (.aload_n 0, 0, 0, []), some (.getfield 29, 6, 9, []), none, none, some (.iload 4, 0, 0, []), none, some (.baload, 0, 0, []), some (.ifCond .eq 37, 0, 0, []), none, none, some (.iload 5, 0, 0, [true, true, true, true, true, true, false]), none],
  [some (.bipush 7, 0, 0, []), none, some (.if_icmp .eq 10, 0, 0, []), none, none, some (.iload 5, 0, 0, [true, true, true, true, true, true, false]), none, some (.bipush 8, 0, 0, []), none, some (.if_icmp .ne 23, 0, 0, []), none, none, some (.aload_n 0, 0, 0, [true, true, true, true, true, true, false]), some (.getfield 16, 6, 2, []), none, none],
  [some (.aload_n 0, 0, 0, []), some (.getfield 109, 6, 8, []), none, none, some (.iload 4, 0, 0, []), none, some (.iadd, 0, 0, []), some (.iaload, 0, 0, []), some (.iload_n 1, 0, 0, []), some (.if_icmp .ne 7, 0, 0, []), none, none, some (.iconst 1, 0, 0, [true, true, true, true, true, true, false]), some (.goto 4, 0, 0, []), none, none],
  [some (.iconst 0, 0, 0, [true, true, true, true, true, true, false]), some (.istore 6, 0, 0, [true, true, true, true, true, true, false]), none, some (.iload_n 2, 0, 0, []), some (.iload 6, 0, 0, []), none, some (.ifCond .ne 7, 0, 0, []), none, none, some (.iconst 0, 0, 0, [true, true, false, true, true, false, false]), some (.goto 15, 0, 0, []), none, none, some (.iload 5, 0, 0, [true, true, false, true, true, true, false]), none, some (.bipush 7, 0, 0, [])],
  [none, some (.if_icmp .ne 7, 0, 0, []), none, none, some (.iconst 1, 0, 0, [true, true, false, true, true, false, false]), some (.goto 4, 0, 0, []), none, none, some (.iconst 2, 0, 0, [true, true, false, true, true, false, false]), some (.ior, 0, 0, [true, true, false, true, true, false, false]), some (.istore_n 2, 0, 0, []), some (.iinc 4 1, 0, 0, []), none, none, some (.goto (-97), 0, 0, []), none],
  [none, some (.iinc 3 1, 0, 0, [true, true, true, true, false, false, false]), none, none, some (.goto (-130), 0, 0, []), none, none, some (.iload_n 2, 0, 0, [false, false, true, false, false, false, false]), some (.ireturn, 0, 0, [])]]
def ai_d126 : List (List (Option ai_N)) := [[some (.iload_n 2, 0, 0, []), some (.ifCond .ne 12, 0, 0, []), none, none, some (.aload_n 0, 0, 0, [true, true, false]), some (.getfield 13, 6, 1, []), none, none, some (.iload_n 1, 0, 0, []), some (.iaload, 0, 0, []), some (.goto 23, 0, 0, []), none, none, some (.iload_n 2, 0, 0, [true, true, true]), some (.iconst 1, 0, 0, []), some (.if_icmp .ne 12, 0, 0, [])],
  [none, none, some (.aload_n 0, 0, 0, [true, true, false]), some (.getfield 16, 6, 2, []), none, none, some (.iload_n 1, 0, 0, []), some (.iaload, 0, 0, []), some (.goto 9, 0, 0, []), none, none, some (.aload_n 0, 0, 0, [true, true, false]), some (.getfield 19, 6, 3, []), none, none, some (.iload_n 1, 0, 0, [])],
  [some (.iaload, 0, 0, []), some (.ireturn, 0, 0, [false, false, false])]]
def ai_d127 : List (List (Option ai_N)) := [[some (.iconst 0, 0, 0, []), some (.istore_n 2, 0, 0, []), some (.iload_n 2, 0, 0, [true, true, true, false, false]), some (.aload_n 0, 0, 0, []), some (.getfield 22, 6, 4, []), none, none, some (.iload_n 1, 0, 0, []), some (.iaload, 0, 0, []), some (.if_icmp .ge 65, 0, 0, []), none, none, some (.iconst 0, 0, 0, [true, true, true, false, false]), some (.iload_n 1, 0, 0, []), some (.iload_n 2, 0, 0, []), some (.invokestatic 95, 1, 98, [])],
  [none, none, some (.istore_n 3, 0, 0, []), some (.iconst 0, 0, 0, []), some (.istore 4, 0, 0, []), none, some (.iload 4, 0, 0, [true, true, true, true, true]), none, some (.iconst 3, 0, 0, []), some (.if_icmp .ge 43, 0, 0, []), none, none, some (.aload_n 0, 0, 0, [true, true, true, true, true]), some (.getfield 7, 6, 0, []), none, none],
  [some (.iload_n 3, 0, 0, []), some (.iaload, 0, 0, []), some (.iload 4, 0, 0, []), none, some (.invokestatic 84, 1, 100, []), none, none, some (.iconst 1, 0, 0, []), some (.if_icmp .ne 22, 0, 0, []), none, none, some (.aload_n 0, 0, 0, [true, true, true, true, true]), some (.iload_n 3, 0, 0, []), some (.iload 4, 0, 0, []), none, some (.invokevirtual 167, 0, 126, [])],
  [none, none, some (.iconst 1, 0, 0, []), some (.if_icmp .le 11, 0, 0, []), none, none, some (.aload_n 0, 0, 0, [true, false, false, true, true]), some (.iload_n 3, 0, 0, []), some (.iload 4, 0, 0, []), none, some (.invokevirtual 167, 0, 126, []), none, none, some (.ireturn, 0, 0, []), some (.iinc 4 1, 0, 0, [true, true, true, true, true]), none],
  [none, some (.goto (-43), 0, 0, []), none, none, some (.iinc 2 1, 0, 0, [true, true, true, false, false]), none, none, some (.goto (-69), 0, 0, []), none, none, some (.iconst 2, 0, 0, [false, false, false, false, false]), some (.ireturn, 0, 0, [])]]
def ai_d128 : List (List (Option ai_N)) := [[some (.iload_n 0, 0, 0, []), some (.iconst 2, 0, 0, []), some (.if_icmp .ge 7, 0, 0, []), none, none, some (.iload_n 0, 0, 0, [true, false]), some (.goto 13, 0, 0, []), none, none, some (.iload_n 0, 0, 0, [true, true]), some (.iload_n 1, 0, 0, []), some (.if_icmp .ne 7, 0, 0, []), none, none, some (.iconst 2, 0, 0, [false, false]), some (.goto 4, 0, 0, [])],
  [none, none, some (.iconst 3, 0, 0, [false, false]), some (.ireturn, 0, 0, [false, false])]]
def ai_d129 : List (List (Option ai_N)) := [[some (.aload_n 0, 0, 0, []), some (.iload_n 1, 0, 0, []), some (.invokevirtual 170, 0, 127, []), none, none, some (.istore_n 3, 0, 0, []), some (.aload_n 0, 0, 0, []), some (.iload_n 2, 0, 0, []), some (.invokevirtual 170, 0, 127, []), none, none, some (.istore 4, 0, 0, []), none, some (.aload_n 0, 0, 0, []), some (.getfield 22, 6, 4, []), none],
  [none, some (.iload_n 1, 0, 0, []), some (.iaload, 0, 0, []), some (.aload_n 0, 0, 0, []), some (.getfield 22, 6, 4, []), none, none, some (.iload_n 2, 0, 0, []), some (.iaload, 0, 0, []), some (.if_icmp .ne 7, 0, 0, []), none, none, some (.iconst 1, 0, 0, [true, true, true, true, true, false, false, false, false, false, false]), some (.goto 4, 0, 0, []), none, none],
  [some (.iconst 0, 0, 0, [true, true, true, true, true, false, false, false, false, false, false]), some (.istore 5, 0, 0, [true, true, true, true, true, false, false, false, false, false, false]), none, some (.iconst 0, 0, 0, []), some (.istore 6, 0, 0, []), none, some (.iload 6, 0, 0, [true, true, true, true, true, true, true, false, false, false, false]), none, some (.aload_n 0, 0, 0, []), some (.getfield 22, 6, 4, []), none, none, some (.iload_n 1, 0, 0, []), some (.iaload, 0, 0, []), some (.if_icmp .ge 166, 0, 0, []), none],
  [none, some (.iload 5, 0, 0, [true, true, true, true, true, true, true, false, false, false, false]), none, some (.ifCond .eq 161, 0, 0, []), none, none, some (.iconst 0, 0, 0, [true, true, true, true, true, false, true, false, false, false, false]), some (.iload_n 1, 0, 0, []), some (.iload 6, 0, 0, []), none, some (.invokestatic 95, 1, 98, []), none, none, some (.istore 7, 0, 0, []), none, some (.iconst 0, 0, 0, [])],
  [some (.iload_n 2, 0, 0, []), some (.iload 6, 0, 0, []), none, some (.invokestatic 95, 1, 98, []), none, none, some (.istore 8, 0, 0, []), none, some (.aload_n 0, 0, 0, []), some (.getfield 7, 6, 0, []), none, none, some (.iload 7, 0, 0, []), none, some (.iaload, 0, 0, []), some (.aload_n 0, 0, 0, [])],
  [some (.getfield 7, 6, 0, []), none, none, some (.iload 8, 0, 0, []), none, some (.iaload, 0, 0, []), some (.if_icmp .ne 7, 0, 0, []), none, none, some (.iconst 1, 0, 0, [true, true, true, true, true, false, true, true, true, false, false]), some (.goto 4, 0, 0, []), none, none, some (.iconst 0, 0, 0, [true, true, true, true, true, false, true, true, true, false, false]), some (.istore 5, 0, 0, [true, true, true, true, true, false, true, true, true, false, false]), none],
  [some (.iconst 0, 0, 0, []), some (.istore 9, 0, 0, []), none, some (.iload 9, 0, 0, [true, true, true, true, true, true, true, true, true, true, false]), none, some (.iconst 3, 0, 0, []), some (.if_icmp .ge 104, 0, 0, []), none, none, some (.iload 5, 0, 0, [true, true, true, true, true, true, true, true, true, true, false]), none, some (.ifCond .eq 99, 0, 0, []), none, none, some (.aload_n 0, 0, 0, [true, true, true, true, true, false, true, true, true, true, false]), some (.getfield 7, 6, 0, [])],
  [none, none, some (.iload 7, 0, 0, []), none, some (.iaload, 0, 0, []), some (.iload 9, 0, 0, []), none, some (.invokestatic 84, 1, 100, []), none, none, some (.iconst 1, 0, 0, []), some (.if_icmp .ne 7, 0, 0, []), none, none, some (.iconst 1, 0, 0, [true, true, true, true, true, false, true, true, true, true, false]), some (.goto 4, 0, 0, [])],
  [none, none, some (.iconst 0, 0, 0, [true, true, true, true, true, false, true, true, true, true, false]), some (.istore 10, 0, 0, [true, true, true, true, true, false, true, true, true, true, false]), none, some (.iload 10, 0, 0, []), none, some (.ifCond .eq 39, 0, 0, []), none, none, some (.aload_n 0, 0, 0, [true, true, true, true, true, false, true, true, true, true, false]), some (.iload 7, 0, 0, []), none, some (.iload 9, 0, 0, []), none, some (.invokevirtual 167, 0, 126, [])],
  [none, none, some (.iload_n 3, 0, 0, []), some (.invokestatic 173, 1, 128, []), none, none, some (.aload_n 0, 0, 0, []), some (.iload 8, 0, 0, []), none, some (.iload 9, 0, 0, []), none, some (.invokevirtual 167, 0, 126, []), none, none, some (.iload 4, 0, 0, []), none],
  [some (.invokestatic 173, 1, 128, []), none, none, some (.if_icmp .ne 7, 0, 0, []), none, none, some (.iconst 1, 0, 0, [true, true, true, true, true, false, true, true, true, true, false]), some (.goto 31, 0, 0, []), none, none, some (.iconst 0, 0, 0, [true, true, true, true, true, false, true, true, true, true, false]), some (.goto 27, 0, 0, []), none, none, some (.aload_n 0, 0, 0, [true, true, true, true, true, false, true, true, true, true, false]), some (.iload 7, 0, 0, [])],
  [none, some (.iload 9, 0, 0, []), none, some (.invokevirtual 167, 0, 126, []), none, none, some (.aload_n 0, 0, 0, []), some (.iload 8, 0, 0, []), none, some (.iload 9, 0, 0, []), none, some (.invokevirtual 167, 0, 126, []), none, none, some (.if_icmp .ne 7, 0, 0, []), none],
  [none, some (.iconst 1, 0, 0, [true, true, true, true, true, false, true, true, true, true, false]), some (.goto 4, 0, 0, []), none, none, some (.iconst 0, 0, 0, [true, true, true, true, true, false, true, true, true, true, false]), some (.istore 5, 0, 0, [true, true, true, true, true, false, true, true, true, true, false]), none, some (.iinc 9 1, 0, 0, []), none, none, some (.goto (-104), 0, 0, []), none, none, some (.iinc 6 1, 0, 0, [true, true, true, true, true, true, true, false, false, false, false]), none],
  [none, some (.goto (-171), 0, 0, []), none, none, some (.iload 5, 0, 0, [false, false, false, false, false, true, false, false, false, false, false]), none, some (.ireturn, 0, 0, [])]]
def ai_d130 : List (List (Option ai_N)) := [[some (.iload_n 1, 0, 0, []), some (.invokestatic 77, 1, 96, []), none, none, some (.ifCond .ne 6, 0, 0, []), none, none, some (.bipush (-101), 0, 0, [false, false, false]), none, some (.ireturn, 0, 0, []), some (.iconst 0, 0, 0, [true, true, false]), some (.istore_n 2, 0, 0, []), some (.aload_n 0, 0, 0, [true, true, true]), some (.iload_n 1, 0, 0, []), some (.iload_n 2, 0, 0, []), some (.invokevirtual 176, 0, 129, [])],
  [none, none, some (.ifCond .ne 9, 0, 0, []), none, none, some (.iinc 2 1, 0, 0, [true, true, true]), none, none, some (.goto (-12), 0, 0, []), none, none, some (.iload_n 2, 0, 0, [false, false, true]), some (.ireturn, 0, 0, [])]]
def ai_d131 : List (List (Option ai_N)) := [[some (.iconst 0, 0, 0, []), some (.istore_n 2, 0, 0, []), some (.iconst 0, 0, 0, []), some (.istore_n 3, 0, 0, []), some (.iload_n 3, 0, 0, [true, true, true, true]), some (.iload_n 1, 0, 0, []), some (.if_icmp .ge 34, 0, 0, []), none, none, some (.iload_n 3, 0, 0, [true, true, true, true]), some (.aload_n 0, 0, 0, []), some (.getfield 99, 6, 7, []), none, none, some (.if_icmp .ge 26, 0, 0, []), none],
  [none, some (.iload_n 2, 0, 0, [true, true, true, true]), some (.aload_n 0, 0, 0, []), some (.getfield 45, 6, 16, []), none, none, some (.iload_n 3, 0, 0, []), some (.baload, 0, 0, []), some (.ifCond .eq 7, 0, 0, []), none, none, some (.iconst 1, 0, 0, [true, true, false, true]), some (.goto 4, 0, 0, []), none, none, some (.iconst 0, 0, 0, [true, true, false, true])],
  [some (.iadd, 0, 0, [true, true, false, true]), some (.istore_n 2, 0, 0, []), some (.iinc 3 1, 0, 0, []), none, none, some (.goto (-33), 0, 0, []), none, none, some (.iload_n 2, 0, 0, [false, false, true, false]), some (.ireturn, 0, 0, [])]]
def ai_d132 : List (List (Option ai_N)) := [[some (.aload_n 0, 0, 0, []), some (.iconst 1, 0, 0, []), some (.iload_n 1, 0, 0, []), some (.invokevirtual 151, 0, 116, []), none, none, some (.iconst 0, 0, 0, []), some (.istore_n 2, 0, 0, []), some (.iconst 0, 0, 0, []), some (.istore_n 3, 0, 0, []), some (.iload_n 3, 0, 0, [true, true, true, true, false, false, false, false]), some (.aload_n 0, 0, 0, []), some (.getfield 99, 6, 7, []), none, none, some (.if_icmp .ge 90, 0, 0, [])],
  [none, none, some (.aload_n 0, 0, 0, [true, true, true, true, false, false, false, false]), some (.iload_n 3, 0, 0, []), some (.invokevirtual 154, 0, 118, []), none, none, some (.istore 4, 0, 0, []), none, some (.aload_n 0, 0, 0, []), some (.getfield 45, 6, 16, []), none, none, some (.iload_n 3, 0, 0, []), some (.iload 4, 0, 0, []), none],
  [some (.iconst 1, 0, 0, []), some (.iand, 0, 0, []), some (.iconst 1, 0, 0, []), some (.if_icmp .ne 15, 0, 0, []), none, none, some (.iload 4, 0, 0, [true, true, true, true, true, false, false, false]), none, some (.bipush 28, 0, 0, []), none, some (.iand, 0, 0, []), some (.ifCond .ne 7, 0, 0, []), none, none, some (.iconst 1, 0, 0, [true, true, true, true, true, false, false, false]), some (.goto 4, 0, 0, [])],
  [none, none, some (.iconst 0, 0, 0, [true, true, true, true, true, false, false, false]), some (.bastore, 0, 0, [true, true, true, true, true, false, false, false]), some (.aload_n 0, 0, 0, []), some (.getfield 48, 6, 17, []), none, none, some (.iload_n 3, 0, 0, []), some (.iload 4, 0, 0, []), none, some (.iconst 2, 0, 0, []), some (.iand, 0, 0, []), some (.iconst 2, 0, 0, []), some (.if_icmp .ne 7, 0, 0, []), none],
  [none, some (.iconst 1, 0, 0, [true, true, true, true, false, false, false, false]), some (.goto 4, 0, 0, []), none, none, some (.iconst 0, 0, 0, [true, true, true, true, false, false, false, false]), some (.bastore, 0, 0, [true, true, true, true, false, false, false, false]), some (.iload_n 2, 0, 0, []), some (.ifCond .ne 21, 0, 0, []), none, none, some (.aload_n 0, 0, 0, [true, true, false, true, false, false, false, false]), some (.getfield 45, 6, 16, []), none, none, some (.iload_n 3, 0, 0, [])],
  [some (.baload, 0, 0, []), some (.ifCond .eq 12, 0, 0, []), none, none, some (.aload_n 0, 0, 0, [true, true, false, true, false, false, false, false]), some (.getfield 48, 6, 17, []), none, none, some (.iload_n 3, 0, 0, []), some (.baload, 0, 0, []), some (.ifCond .eq 7, 0, 0, []), none, none, some (.iconst 1, 0, 0, [true, true, false, true, false, false, false, false]), some (.goto 4, 0, 0, []), none],
  [none, some (.iconst 0, 0, 0, [true, true, false, true, false, false, false, false]), some (.istore_n 2, 0, 0, [true, true, false, true, false, false, false, false]), some (.iinc 3 1, 0, 0, []), none, none, some (.goto (-92), 0, 0, []), none, none, some (.iconst 0, 0, 0, [true, true, true, false, false, false, false, false]), some (.istore_n 3, 0, 0, []), some (.iconst 0, 0, 0, []), some (.istore 4, 0, 0, []), none, some (.iload 4, 0, 0, [true, true, true, true, true, false, false, false]), none],
  [some (.aload_n 0, 0, 0, []), some (.getfield 99, 6, 7, []), none, none, some (.if_icmp .ge 214, 0, 0, []), none, none, some (.iload_n 2, 0, 0, [true, true, true, true, true, false, false, false]), some (.ifCond .eq 210, 0, 0, []), none, none, some (.aload_n 0, 0, 0, [true, true, true, true, true, false, false, false]), some (.getfield 45, 6, 16, []), none, none, some (.iload 4, 0, 0, [])],
  [none, some (.baload, 0, 0, []), some (.ifCond .eq 194, 0, 0, []), none, none, some (.aload_n 0, 0, 0, [true, true, true, true, true, false, false, false]), some (.getfield 109, 6, 8, []), none, none, some (.iload 4, 0, 0, []), none, some (.iadd, 0, 0, []), some (.istore 5, 0, 0, []), none, some (.aload_n 0, 0, 0, []), some (.getfield 48, 6, 17, [])],
  [none, none, some (.iload 4, 0, 0, []), none, some (.baload, 0, 0, []), some (.ifCond .eq 8, 0, 0, []), none, none, some (.bipush 6, 0, 0, [true, true, true, true, true, true, false, false]), none, some (.goto 10, 0, 0, []), none, none, some (.aload_n 0, 0, 0, [true, true, true, true, true, true, false, false]), some (.getfield 7, 6, 0, []), none],
  [none, some (.iload 5, 0, 0, []), none, some (.iaload, 0, 0, []), some (.istore 6, 0, 0, [true, true, true, true, true, true, false, false]), none, some (.aload_n 0, 0, 0, []), some (.getfield 48, 6, 17, []), none, none, some (.iload 4, 0, 0, []), none, some (.baload, 0, 0, []), some (.ifCond .eq 13, 0, 0, []), none, none],
  [some (.aload_n 0, 0, 0, [true, true, true, true, true, true, true, false]), some (.getfield 19, 6, 3, []), none, none, some (.iload 5, 0, 0, []), none, some (.iaload, 0, 0, []), some (.goto 10, 0, 0, []), none, none, some (.aload_n 0, 0, 0, [true, true, true, true, true, true, true, false]), some (.getfield 13, 6, 1, []), none, none, some (.iload 5, 0, 0, []), none],
  [some (.iaload, 0, 0, []), some (.istore 7, 0, 0, [true, true, true, true, true, true, true, false]), none, some (.aload_n 0, 0, 0, []), some (.getfield 7, 6, 0, []), none, none, some (.aload_n 0, 0, 0, []), some (.getfield 109, 6, 8, []), none, none, some (.iload_n 3, 0, 0, []), some (.iadd, 0, 0, []), some (.iload 6, 0, 0, []), none, some (.iastore, 0, 0, [])],
  [some (.aload_n 0, 0, 0, []), some (.getfield 13, 6, 1, []), none, none, some (.aload_n 0, 0, 0, []), some (.getfield 109, 6, 8, []), none, none, some (.iload_n 3, 0, 0, []), some (.iadd, 0, 0, []), some (.iload 6, 0, 0, []), none, some (.bipush 6, 0, 0, []), none, some (.if_icmp .ne 12, 0, 0, []), none],
  [none, some (.aload_n 0, 0, 0, [true, true, true, true, true, true, true, true]), some (.iload 7, 0, 0, []), none, some (.invokevirtual 179, 0, 131, []), none, none, some (.goto 5, 0, 0, []), none, none, some (.iload 7, 0, 0, [true, true, true, true, true, true, true, true]), none, some (.iastore, 0, 0, [true, true, true, true, true, true, true, false]), some (.aload_n 0, 0, 0, []), some (.getfield 16, 6, 2, []), none],
  [none, some (.aload_n 0, 0, 0, []), some (.getfield 109, 6, 8, []), none, none, some (.iload_n 3, 0, 0, []), some (.iadd, 0, 0, []), some (.aload_n 0, 0, 0, []), some (.getfield 48, 6, 17, []), none, none, some (.iload 4, 0, 0, []), none, some (.baload, 0, 0, []), some (.ifCond .eq 7, 0, 0, []), none],
  [none, some (.iconst 0, 0, 0, [true, true, true, true, true, true, true, false]), some (.goto 10, 0, 0, []), none, none, some (.aload_n 0, 0, 0, [true, true, true, true, true, true, true, false]), some (.getfield 16, 6, 2, []), none, none, some (.iload 5, 0, 0, []), none, some (.iaload, 0, 0, []), some (.iastore, 0, 0, [true, true, true, true, true, true, true, false]), some (.aload_n 0, 0, 0, []), some (.getfield 19, 6, 3, []), none],
  [none, some (.aload_n 0, 0, 0, []), some (.getfield 109, 6, 8, []), none, none, some (.iload_n 3, 0, 0, []), some (.iadd, 0, 0, []), some (.aload_n 0, 0, 0, []), some (.getfield 48, 6, 17, []), none, none, some (.iload 4, 0, 0, []), none, some (.baload, 0, 0, []), some (.ifCond .eq 7, 0, 0, []), none],
  [none, some (.iconst 0, 0, 0, [true, true, true, true, true, false, false, false]), some (.goto 30, 0, 0, []), none, none, some (.iload 6, 0, 0, [true, true, true, true, true, true, true, false]), none, some (.iconst 5, 0, 0, []), some (.if_icmp .ne 17, 0, 0, []), none, none, some (.aload_n 0, 0, 0, [true, true, true, true, true, true, false, false]), some (.aload_n 0, 0, 0, []), some (.getfield 19, 6, 3, []), none, none],
  [some (.iload 5, 0, 0, []), none, some (.iaload, 0, 0, []), some (.invokevirtual 179, 0, 131, []), none, none, some (.goto 10, 0, 0, []), none, none, some (.aload_n 0, 0, 0, [true, true, true, true, true, true, false, false]), some (.getfield 19, 6, 3, []), none, none, some (.iload 5, 0, 0, []), none, some (.iaload, 0, 0, [])],
  [some (.iastore, 0, 0, [true, true, true, true, true, false, false, false]), some (.iinc 3 1, 0, 0, []), none, none, some (.iinc 4 1, 0, 0, [true, true, true, true, true, false, false, false]), none, none, some (.goto (-217), 0, 0, []), none, none, some (.aload_n 0, 0, 0, [true, true, true, true, false, false, false, false]), some (.getfield 22, 6, 4, []), none, none, some (.bipush 8, 0, 0, []), none],
  [some (.iload_n 1, 0, 0, []), some (.iadd, 0, 0, []), some (.iload_n 2, 0, 0, []), some (.ifCond .eq 7, 0, 0, []), none, none, some (.iload_n 3, 0, 0, [false, false, true, true, false, false, false, false]), some (.goto 7, 0, 0, []), none, none, some (.aload_n 0, 0, 0, [true, false, true, false, false, false, false, false]), some (.getfield 99, 6, 7, []), none, none, some (.iastore, 0, 0, [false, false, true, false, false, false, false, false]), some (.iload_n 2, 0, 0, [])],
  [some (.ireturn, 0, 0, [])]]
def ai_d133 : List (List (Option ai_N)) := [[some (.aload_n 0, 0, 0, []), some (.invokevirtual 164, 0, 123, []), none, none, some (.aload_n 0, 0, 0, []), some (.iconst 1, 0, 0, []), some (.putfield 182, 6, 6, []), none, none, some (.iconst 0, 0, 0, []), some (.istore_n 1, 0, 0, []), some (.iconst 0, 0, 0, []), some (.istore_n 2, 0, 0, []), some (.iload_n 2, 0, 0, [true, true, true, false, false, false]), some (.bipush 8, 0, 0, []), none],
  [some (.if_icmp .ge 167, 0, 0, []), none, none, some (.aload_n 0, 0, 0, [true, true, true, false, false, false]), some (.getfield 22, 6, 4, []), none, none, some (.bipush 8, 0, 0, []), none, some (.iload_n 2, 0, 0, []), some (.iadd, 0, 0, []), some (.aload_n 0, 0, 0, []), some (.getfield 161, 6, 15, []), none, none, some (.iload_n 2, 0, 0, [])],
  [some (.ishr, 0, 0, []), some (.iconst 1, 0, 0, []), some (.iand, 0, 0, []), some (.iconst 1, 0, 0, []), some (.if_icmp .ne 12, 0, 0, []), none, none, some (.aload_n 0, 0, 0, [true, true, true, false, false, false]), some (.getfield 22, 6, 4, []), none, none, some (.iload_n 2, 0, 0, []), some (.iaload, 0, 0, []), some (.goto 4, 0, 0, []), none, none],
  [some (.iconst 0, 0, 0, [true, true, true, false, false, false]), some (.iastore, 0, 0, [true, true, true, false, false, false]), some (.iconst 0, 0, 0, []), some (.istore_n 3, 0, 0, []), some (.iload_n 3, 0, 0, [true, true, true, true, false, false]), some (.aload_n 0, 0, 0, []), some (.getfield 22, 6, 4, []), none, none, some (.bipush 8, 0, 0, []), none, some (.iload_n 2, 0, 0, []), some (.iadd, 0, 0, []), some (.iaload, 0, 0, []), some (.if_icmp .ge 81, 0, 0, []), none],
  [none, some (.iconst 0, 0, 0, [true, true, true, true, false, false]), some (.iload_n 2, 0, 0, []), some (.iload_n 3, 0, 0, []), some (.invokestatic 95, 1, 98, []), none, none, some (.istore 4, 0, 0, []), none, some (.iconst 1, 0, 0, []), some (.iload_n 2, 0, 0, []), some (.iload_n 3, 0, 0, []), some (.invokestatic 95, 1, 98, []), none, none, some (.istore 5, 0, 0, [])],
  [none, some (.aload_n 0, 0, 0, []), some (.getfield 7, 6, 0, []), none, none, some (.iload 5, 0, 0, []), none, some (.aload_n 0, 0, 0, []), some (.getfield 7, 6, 0, []), none, none, some (.iload 4, 0, 0, []), none, some (.iaload, 0, 0, []), some (.iastore, 0, 0, []), some (.aload_n 0, 0, 0, [])],
  [some (.getfield 13, 6, 1, []), none, none, some (.iload 5, 0, 0, []), none, some (.aload_n 0, 0, 0, []), some (.getfield 13, 6, 1, []), none, none, some (.iload 4, 0, 0, []), none, some (.iaload, 0, 0, []), some (.iastore, 0, 0, []), some (.aload_n 0, 0, 0, []), some (.getfield 16, 6, 2, []), none],
  [none, some (.iload 5, 0, 0, []), none, some (.aload_n 0, 0, 0, []), some (.getfield 16, 6, 2, []), none, none, some (.iload 4, 0, 0, []), none, some (.iaload, 0, 0, []), some (.iastore, 0, 0, []), some (.aload_n 0, 0, 0, []), some (.getfield 19, 6, 3, []), none, none, some (.iload 5, 0, 0, [])],
  [none, some (.aload_n 0, 0, 0, []), some (.getfield 19, 6, 3, []), none, none, some (.iload 4, 0, 0, []), none, some (.iaload, 0, 0, []), some (.iastore, 0, 0, []), some (.iinc 3 1, 0, 0, []), none, none, some (.goto (-88), 0, 0, []), none, none, some (.iconst 1, 0, 0, [true, true, true, false, false, false])],
  [some (.istore_n 3, 0, 0, []), some (.iload_n 3, 0, 0, [true, true, true, true, false, false]), some (.ifCond .eq 12, 0, 0, []), none, none, some (.aload_n 0, 0, 0, [true, true, true, false, false, false]), some (.iload_n 2, 0, 0, []), some (.invokevirtual 185, 0, 132, []), none, none, some (.istore_n 3, 0, 0, []), some (.goto (-10), 0, 0, []), none, none, some (.iload_n 1, 0, 0, [true, true, true, false, false, false]), some (.aload_n 0, 0, 0, [])],
  [some (.getfield 22, 6, 4, []), none, none, some (.iload_n 2, 0, 0, []), some (.iaload, 0, 0, []), some (.aload_n 0, 0, 0, []), some (.getfield 22, 6, 4, []), none, none, some (.bipush 8, 0, 0, []), none, some (.iload_n 2, 0, 0, []), some (.iadd, 0, 0, []), some (.iaload, 0, 0, []), some (.isub, 0, 0, []), some (.iadd, 0, 0, [])],
  [some (.istore_n 1, 0, 0, []), some (.iinc 2 1, 0, 0, []), none, none, some (.goto (-167), 0, 0, []), none, none, some (.iload_n 1, 0, 0, [false, true, false, false, false, false]), some (.ireturn, 0, 0, [])]]
def ai_d134 : List (List (Option ai_N)) := [[some (.aload_n 0, 0, 0, []), some (.getfield 57, 6, 25, []), none, none, some (.aload_n 0, 0, 0, []), some (.getfield 188, 6, 23, []), none, none, some (.iload_n 1, 0, 0, []), some (.iastore, 0, 0, []), some (.aload_n 0, 0, 0, []), some (.getfield 60, 6, 26, []), none, none, some (.aload_n 0, 0, 0, []), some (.getfield 188, 6, 23, [])],
  [none, none, some (.iconst 0, 0, 0, []), some (.iastore, 0, 0, []), some (.aload_n 0, 0, 0, []), some (.getfield 63, 6, 27, []), none, none, some (.aload_n 0, 0, 0, []), some (.getfield 188, 6, 23, []), none, none, some (.iload 4, 0, 0, []), none, some (.iastore, 0, 0, []), some (.aload_n 0, 0, 0, [])],
  [some (.getfield 66, 6, 28, []), none, none, some (.iconst 4, 0, 0, []), some (.aload_n 0, 0, 0, []), some (.getfield 188, 6, 23, []), none, none, some (.imul, 0, 0, []), some (.iload_n 2, 0, 0, []), some (.iastore, 0, 0, []), some (.aload_n 0, 0, 0, []), some (.getfield 66, 6, 28, []), none, none, some (.iconst 4, 0, 0, [])],
  [some (.aload_n 0, 0, 0, []), some (.getfield 188, 6, 23, []), none, none, some (.imul, 0, 0, []), some (.iconst 1, 0, 0, []), some (.iadd, 0, 0, []), some (.iload_n 3, 0, 0, []), some (.iastore, 0, 0, []), some (.aload_n 0, 0, 0, []), some (.getfield 66, 6, 28, []), none, none, some (.iconst 4, 0, 0, []), some (.aload_n 0, 0, 0, []), some (.getfield 188, 6, 23, [])],
  [none, none, some (.imul, 0, 0, []), some (.iconst 2, 0, 0, []), some (.iadd, 0, 0, []), some (.iconst 0, 0, 0, []), some (.iastore, 0, 0, []), some (.aload_n 0, 0, 0, []), some (.getfield 66, 6, 28, []), none, none, some (.iconst 4, 0, 0, []), some (.aload_n 0, 0, 0, []), some (.getfield 188, 6, 23, []), none, none],
  [some (.imul, 0, 0, []), some (.iconst 3, 0, 0, []), some (.iadd, 0, 0, []), some (.iconst 0, 0, 0, []), some (.iastore, 0, 0, []), some (.aload_n 0, 0, 0, []), some (.dup, 0, 0, []), some (.getfield 188, 6, 23, []), none, none, some (.iconst 1, 0, 0, []), some (.iadd, 0, 0, []), some (.putfield 188, 6, 23, []), none, none, some (.return_, 0, 0, [])]]
def ai_d135 : List (List (Option ai_N)) := [[some (.aload_n 0, 0, 0, []), some (.dup, 0, 0, []), some (.getfield 188, 6, 23, []), none, none, some (.iconst 1, 0, 0, []), some (.isub, 0, 0, []), some (.putfield 188, 6, 23, []), none, none, some (.aload_n 0, 0, 0, []), some (.getfield 188, 6, 23, []), none, none, some (.ifCond .ne 16, 0, 0, []), none],
  [none, some (.aload_n 0, 0, 0, [true, true]), some (.iload_n 1, 0, 0, []), some (.putfield 191, 6, 22, []), none, none, some (.aload_n 0, 0, 0, []), some (.iconst 0, 0, 0, []), some (.putfield 194, 6, 24, []), none, none, some (.goto 27, 0, 0, []), none, none, some (.aload_n 0, 0, 0, [true, true]), some (.getfield 66, 6, 28, [])],
  [none, none, some (.iconst 4, 0, 0, []), some (.aload_n 0, 0, 0, []), some (.getfield 188, 6, 23, []), none, none, some (.iconst 1, 0, 0, []), some (.isub, 0, 0, []), some (.imul, 0, 0, []), some (.aload_n 0, 0, 0, []), some (.getfield 63, 6, 27, []), none, none, some (.aload_n 0, 0, 0, []), some (.getfield 188, 6, 23, [])],
  [none, none, some (.iaload, 0, 0, []), some (.iadd, 0, 0, []), some (.iload_n 1, 0, 0, []), some (.iastore, 0, 0, []), some (.return_, 0, 0, [false, false])]]
def ai_d136 : List (List (Option ai_N)) := [[some (.aload_n 0, 0, 0, []), some (.getfield 188, 6, 23, []), none, none, some (.iconst 1, 0, 0, []), some (.isub, 0, 0, []), some (.istore_n 2, 0, 0, []), some (.iconst 4, 0, 0, []), some (.iload_n 2, 0, 0, []), some (.imul, 0, 0, []), some (.istore_n 3, 0, 0, []), some (.aload_n 0, 0, 0, []), some (.getfield 13, 6, 1, []), none, none, some (.iload_n 1, 0, 0, [])],
  [some (.iaload, 0, 0, []), some (.istore 4, 0, 0, []), none, some (.aload_n 0, 0, 0, []), some (.getfield 16, 6, 2, []), none, none, some (.iload_n 1, 0, 0, []), some (.iaload, 0, 0, []), some (.istore 5, 0, 0, []), none, some (.aload_n 0, 0, 0, []), some (.getfield 19, 6, 3, []), none, none, some (.iload_n 1, 0, 0, [])],
  [some (.iaload, 0, 0, []), some (.istore 6, 0, 0, []), none, some (.aload_n 0, 0, 0, []), some (.getfield 60, 6, 26, []), none, none, some (.iload_n 2, 0, 0, []), some (.dup2, 0, 0, []), some (.iaload, 0, 0, []), some (.iconst 1, 0, 0, []), some (.iadd, 0, 0, []), some (.iastore, 0, 0, []), some (.aload_n 0, 0, 0, []), some (.getfield 7, 6, 0, []), none],
  [none, some (.iload_n 1, 0, 0, []), some (.iaload, 0, 0, []), some (.tableswitch 384 0 11 #[61, 75, 96, 127, 158, 209, 250, 261, 280, 299, 341, 357], 0, 0, []), none, none, none, none, none, none, none, none, none, none, none, none],
  [none, none, none, none, none, none, none, none, none, none, none, none, none, none, none, none],
  [none, none, none, none, none, none, none, none, none, none, none, none, none, none, none, none],
  [none, none, none, none, none, none, none, none, none, none, none, none, none, none, none, none],
  [some (.aload_n 0, 0, 0, [true, false, false, true, true, true, false]), some (.getfield 66, 6, 28, []), none, none, some (.iload_n 3, 0, 0, []), some (.iload 4, 0, 0, []), none, some (.iadd, 0, 0, []), some (.iload 5, 0, 0, []), none, some (.iastore, 0, 0, []), some (.goto 349, 0, 0, []), none, none, some (.aload_n 0, 0, 0, [true, false, false, true, true, true, false]), some (.getfield 66, 6, 28, [])],
  [none, none, some (.iload_n 3, 0, 0, []), some (.iload 4, 0, 0, []), none, some (.iadd, 0, 0, []), some (.aload_n 0, 0, 0, []), some (.getfield 66, 6, 28, []), none, none, some (.iload_n 3, 0, 0, []), some (.iload 5, 0, 0, []), none, some (.iadd, 0, 0, []), some (.iaload, 0, 0, []), some (.iastore, 0, 0, [])],
  [some (.goto 328, 0, 0, []), none, none, some (.aload_n 0, 0, 0, [true, false, false, true, true, true, true]), some (.getfield 66, 6, 28, []), none, none, some (.iload_n 3, 0, 0, []), some (.iload 4, 0, 0, []), none, some (.iadd, 0, 0, []), some (.aload_n 0, 0, 0, []), some (.getfield 66, 6, 28, []), none, none, some (.iload_n 3, 0, 0, [])],
  [some (.iload 5, 0, 0, []), none, some (.iadd, 0, 0, []), some (.iaload, 0, 0, []), some (.aload_n 0, 0, 0, []), some (.getfield 66, 6, 28, []), none, none, some (.iload_n 3, 0, 0, []), some (.iload 6, 0, 0, []), none, some (.iadd, 0, 0, []), some (.iaload, 0, 0, []), some (.iadd, 0, 0, []), some (.iastore, 0, 0, []), some (.goto 297, 0, 0, [])],
  [none, none, some (.aload_n 0, 0, 0, [true, false, false, true, true, true, true]), some (.getfield 66, 6, 28, []), none, none, some (.iload_n 3, 0, 0, []), some (.iload 4, 0, 0, []), none, some (.iadd, 0, 0, []), some (.aload_n 0, 0, 0, []), some (.getfield 66, 6, 28, []), none, none, some (.iload_n 3, 0, 0, []), some (.iload 5, 0, 0, [])],
  [none, some (.iadd, 0, 0, []), some (.iaload, 0, 0, []), some (.aload_n 0, 0, 0, []), some (.getfield 66, 6, 28, []), none, none, some (.iload_n 3, 0, 0, []), some (.iload 6, 0, 0, []), none, some (.iadd, 0, 0, []), some (.iaload, 0, 0, []), some (.imul, 0, 0, []), some (.iastore, 0, 0, []), some (.goto 266, 0, 0, []), none],
  [none, some (.aload_n 0, 0, 0, [true, false, false, true, true, true, true]), some (.getfield 66, 6, 28, []), none, none, some (.iload_n 3, 0, 0, []), some (.iload 6, 0, 0, []), none, some (.iadd, 0, 0, []), some (.iaload, 0, 0, []), some (.ifCond .ne 11, 0, 0, []), none, none, some (.aload_n 0, 0, 0, [true, false, false, false, false, false, false]), some (.iconst 1, 0, 0, []), some (.putfield 194, 6, 24, [])],
  [none, none, some (.goto 246, 0, 0, []), none, none, some (.aload_n 0, 0, 0, [true, false, false, true, true, true, true]), some (.getfield 66, 6, 28, []), none, none, some (.iload_n 3, 0, 0, []), some (.iload 4, 0, 0, []), none, some (.iadd, 0, 0, []), some (.aload_n 0, 0, 0, []), some (.getfield 66, 6, 28, []), none],
  [none, some (.iload_n 3, 0, 0, []), some (.iload 5, 0, 0, []), none, some (.iadd, 0, 0, []), some (.iaload, 0, 0, []), some (.aload_n 0, 0, 0, []), some (.getfield 66, 6, 28, []), none, none, some (.iload_n 3, 0, 0, []), some (.iload 6, 0, 0, []), none, some (.iadd, 0, 0, []), some (.iaload, 0, 0, []), some (.idiv, 0, 0, [])],
  [some (.iastore, 0, 0, []), some (.goto 215, 0, 0, []), none, none, some (.aload_n 0, 0, 0, [true, false, true, true, true, true, true]), some (.getfield 60, 6, 26, []), none, none, some (.iload_n 2, 0, 0, []), some (.aload_n 0, 0, 0, []), some (.getfield 66, 6, 28, []), none, none, some (.iload_n 3, 0, 0, []), some (.iload 4, 0, 0, []), none],
  [some (.iadd, 0, 0, []), some (.iaload, 0, 0, []), some (.aload_n 0, 0, 0, []), some (.getfield 66, 6, 28, []), none, none, some (.iload_n 3, 0, 0, []), some (.iload 5, 0, 0, []), none, some (.iadd, 0, 0, []), some (.iaload, 0, 0, []), some (.if_icmp .ge 8, 0, 0, []), none, none, some (.iload 6, 0, 0, [false, false, false, false, false, false, true]), none],
  [some (.goto 9, 0, 0, []), none, none, some (.aload_n 0, 0, 0, [true, false, true, false, false, false, false]), some (.getfield 60, 6, 26, []), none, none, some (.iload_n 2, 0, 0, []), some (.iaload, 0, 0, []), some (.iastore, 0, 0, [false, false, false, false, false, false, false]), some (.goto 174, 0, 0, []), none, none, some (.aload_n 0, 0, 0, [true, false, true, false, true, false, false]), some (.getfield 60, 6, 26, []), none],
  [none, some (.iload_n 2, 0, 0, []), some (.iload 4, 0, 0, []), none, some (.iastore, 0, 0, []), some (.goto 163, 0, 0, []), none, none, some (.aload_n 0, 0, 0, [true, false, false, true, true, true, false]), some (.getfield 66, 6, 28, []), none, none, some (.iload_n 3, 0, 0, []), some (.iload 4, 0, 0, []), none, some (.iadd, 0, 0, [])],
  [some (.aload_n 0, 0, 0, []), some (.getfield 51, 6, 18, []), none, none, some (.iload 5, 0, 0, []), none, some (.iaload, 0, 0, []), some (.iastore, 0, 0, []), some (.goto 144, 0, 0, []), none, none, some (.aload_n 0, 0, 0, [true, false, false, true, true, true, false]), some (.getfield 51, 6, 18, []), none, none, some (.iload 5, 0, 0, [])],
  [none, some (.aload_n 0, 0, 0, []), some (.getfield 66, 6, 28, []), none, none, some (.iload_n 3, 0, 0, []), some (.iload 4, 0, 0, []), none, some (.iadd, 0, 0, []), some (.iaload, 0, 0, []), some (.iastore, 0, 0, []), some (.goto 125, 0, 0, []), none, none, some (.aload_n 0, 0, 0, [true, false, false, true, true, true, false]), some (.getfield 188, 6, 23, [])],
  [none, none, some (.bipush 8, 0, 0, []), none, some (.if_icmp .ne 11, 0, 0, []), none, none, some (.aload_n 0, 0, 0, [true, false, false, false, false, false, false]), some (.iconst 3, 0, 0, []), some (.putfield 194, 6, 24, []), none, none, some (.goto 108, 0, 0, []), none, none, some (.aload_n 0, 0, 0, [true, false, false, true, true, true, false])],
  [some (.iload 5, 0, 0, []), none, some (.aload_n 0, 0, 0, []), some (.getfield 66, 6, 28, []), none, none, some (.iload_n 3, 0, 0, []), some (.iaload, 0, 0, []), some (.aload_n 0, 0, 0, []), some (.getfield 66, 6, 28, []), none, none, some (.iload_n 3, 0, 0, []), some (.iconst 1, 0, 0, []), some (.iadd, 0, 0, []), some (.iaload, 0, 0, [])],
  [some (.iload 4, 0, 0, []), none, some (.invokevirtual 197, 0, 134, []), none, none, some (.goto 83, 0, 0, []), none, none, some (.aload_n 0, 0, 0, [true, false, false, true, true, false, false]), some (.aload_n 0, 0, 0, []), some (.getfield 66, 6, 28, []), none, none, some (.iload_n 3, 0, 0, []), some (.iload 4, 0, 0, []), none],
  [some (.iadd, 0, 0, []), some (.iaload, 0, 0, []), some (.invokevirtual 201, 0, 135, []), none, none, some (.goto 67, 0, 0, []), none, none, some (.aload_n 0, 0, 0, [true, false, false, true, true, false, false]), some (.aload_n 0, 0, 0, []), some (.getfield 66, 6, 28, []), none, none, some (.iload_n 3, 0, 0, []), some (.iload 4, 0, 0, []), none],
  [some (.iadd, 0, 0, []), some (.iaload, 0, 0, []), some (.ifCond .ne 7, 0, 0, []), none, none, some (.iconst 2, 0, 0, [false, false, false, false, false, false, false]), some (.goto 7, 0, 0, []), none, none, some (.aload_n 0, 0, 0, [true, false, false, false, false, false, false]), some (.getfield 194, 6, 24, []), none, none, some (.putfield 194, 6, 24, [false, false, false, false, false, false, false]), none, none],
  [some (.goto 40, 0, 0, []), none, none, some (.aload_n 0, 0, 0, [true, false, false, true, true, false, false]), some (.getfield 204, 6, 20, []), none, none, some (.bipush 60, 0, 0, []), none, some (.if_icmp .ge 21, 0, 0, []), none, none, some (.aload_n 0, 0, 0, [true, false, false, true, true, false, false]), some (.getfield 54, 6, 19, []), none, none],
  [some (.aload_n 0, 0, 0, []), some (.getfield 204, 6, 20, []), none, none, some (.aload_n 0, 0, 0, []), some (.getfield 66, 6, 28, []), none, none, some (.iload_n 3, 0, 0, []), some (.iload 4, 0, 0, []), none, some (.iadd, 0, 0, []), some (.iaload, 0, 0, []), some (.iastore, 0, 0, []), some (.aload_n 0, 0, 0, [true, false, false, false, false, false, false]), some (.dup, 0, 0, [])],
  [some (.getfield 204, 6, 20, []), none, none, some (.iconst 1, 0, 0, []), some (.iadd, 0, 0, []), some (.putfield 204, 6, 20, []), none, none, some (.return_, 0, 0, [false, false, false, false, false, false, false])]]
def ai_d137 : List (List (Option ai_N)) := [[some (.iload_n 2, 0, 0, []), some (.invokestatic 77, 1, 96, []), none, none, some (.ifCond .ne 6, 0, 0, []), none, none, some (.bipush (-101), 0, 0, [false, false, false, false, false, false, false]), none, some (.ireturn, 0, 0, []), some (.iload_n 1, 0, 0, [true, true, true, true, true, false, false]), some (.iconst 0, 0, 0, []), some (.iconst 1, 0, 0, []), some (.invokestatic 69, 1, 95, []), none, none],
  [some (.ifCond .ne 6, 0, 0, []), none, none, some (.bipush (-102), 0, 0, [false, false, false, false, false, false, false]), none, some (.ireturn, 0, 0, []), some (.iload_n 1, 0, 0, [true, true, true, true, true, false, false]), some (.iconst 1, 0, 0, []), some (.if_icmp .ne 13, 0, 0, []), none, none, some (.aload_n 0, 0, 0, [true, true, true, true, true, false, false]), some (.getfield 182, 6, 6, []), none, none, some (.ifCond .ne 6, 0, 0, [])],
  [none, none, some (.bipush (-103), 0, 0, [false, false, false, false, false, false, false]), none, some (.ireturn, 0, 0, []), some (.iconst 0, 0, 0, [true, true, true, true, true, false, false]), some (.istore 5, 0, 0, []), none, some (.iload 5, 0, 0, [true, true, true, true, true, true, false]), none, some (.iconst 4, 0, 0, []), some (.if_icmp .ge 17, 0, 0, []), none, none, some (.aload_n 0, 0, 0, [true, true, true, true, true, true, false]), some (.getfield 51, 6, 18, [])],
  [none, none, some (.iload 5, 0, 0, []), none, some (.iconst 0, 0, 0, []), some (.iastore, 0, 0, []), some (.iinc 5 1, 0, 0, []), none, none, some (.goto (-17), 0, 0, []), none, none, some (.aload_n 0, 0, 0, [true, true, true, true, true, false, false]), some (.iconst 0, 0, 0, []), some (.putfield 204, 6, 20, []), none],
  [none, some (.aload_n 0, 0, 0, []), some (.iconst 0, 0, 0, []), some (.putfield 207, 6, 21, []), none, none, some (.aload_n 0, 0, 0, []), some (.iconst 0, 0, 0, []), some (.putfield 191, 6, 22, []), none, none, some (.aload_n 0, 0, 0, []), some (.iconst 0, 0, 0, []), some (.putfield 188, 6, 23, []), none, none],
  [some (.aload_n 0, 0, 0, []), some (.iconst (-1), 0, 0, []), some (.putfield 194, 6, 24, []), none, none, some (.aload_n 0, 0, 0, []), some (.iload_n 2, 0, 0, []), some (.iload_n 3, 0, 0, []), some (.iload 4, 0, 0, []), none, some (.iconst 0, 0, 0, []), some (.invokevirtual 197, 0, 134, []), none, none, some (.aload_n 0, 0, 0, [true, true, false, false, false, false, false]), some (.getfield 194, 6, 24, [])],
  [none, none, some (.ifCond .ge 97, 0, 0, []), none, none, some (.aload_n 0, 0, 0, [true, true, false, false, false, false, false]), some (.getfield 57, 6, 25, []), none, none, some (.aload_n 0, 0, 0, []), some (.getfield 188, 6, 23, []), none, none, some (.iconst 1, 0, 0, []), some (.isub, 0, 0, []), some (.iaload, 0, 0, [])],
  [some (.istore 5, 0, 0, []), none, some (.aload_n 0, 0, 0, []), some (.getfield 60, 6, 26, []), none, none, some (.aload_n 0, 0, 0, []), some (.getfield 188, 6, 23, []), none, none, some (.iconst 1, 0, 0, []), some (.isub, 0, 0, []), some (.iaload, 0, 0, []), some (.istore 6, 0, 0, []), none, some (.iload 6, 0, 0, [])],
  [none, some (.aload_n 0, 0, 0, []), some (.getfield 22, 6, 4, []), none, none, some (.bipush 8, 0, 0, []), none, some (.iload_n 1, 0, 0, []), some (.imul, 0, 0, []), some (.iload 5, 0, 0, []), none, some (.iadd, 0, 0, []), some (.iaload, 0, 0, []), some (.if_icmp .lt 11, 0, 0, []), none, none],
  [some (.aload_n 0, 0, 0, [true, true, false, false, false, false, false]), some (.iconst 0, 0, 0, []), some (.invokevirtual 201, 0, 135, []), none, none, some (.goto 43, 0, 0, []), none, none, some (.aload_n 0, 0, 0, [true, true, false, false, false, true, true]), some (.getfield 207, 6, 21, []), none, none, some (.sipush 2000, 0, 0, []), none, none, some (.if_icmp .ne 11, 0, 0, [])],
  [none, none, some (.aload_n 0, 0, 0, [true, true, false, false, false, false, false]), some (.iconst 4, 0, 0, []), some (.putfield 194, 6, 24, []), none, none, some (.goto 25, 0, 0, []), none, none, some (.aload_n 0, 0, 0, [true, true, false, false, false, true, true]), some (.dup, 0, 0, []), some (.getfield 207, 6, 21, []), none, none, some (.iconst 1, 0, 0, [])],
  [some (.iadd, 0, 0, []), some (.putfield 207, 6, 21, []), none, none, some (.aload_n 0, 0, 0, []), some (.iload_n 1, 0, 0, []), some (.iload 5, 0, 0, []), none, some (.iload 6, 0, 0, []), none, some (.invokestatic 95, 1, 98, []), none, none, some (.invokevirtual 210, 0, 136, []), none, none],
  [some (.goto (-98), 0, 0, [true, true, false, false, false, false, false]), none, none, some (.aload_n 0, 0, 0, [true, false, false, false, false, false, false]), some (.getfield 194, 6, 24, []), none, none, some (.ireturn, 0, 0, [])]]
def ai_d138 : List (List (Option ai_N)) := [[some (.iload_n 1, 0, 0, []), some (.tableswitch 45 0 2 #[27, 33, 39], 0, 0, []), none, none, none, none, none, none, none, none, none, none, none, none, none, none],
  [none, none, none, none, none, none, none, none, none, none, none, none, some (.aload_n 0, 0, 0, [true, false]), some (.getfield 191, 6, 22, []), none, none],
  [some (.i2l, 0, 0, []), some (.lreturn, 0, 0, []), some (.aload_n 0, 0, 0, [true, false]), some (.getfield 207, 6, 21, []), none, none, some (.i2l, 0, 0, []), some (.lreturn, 0, 0, []), some (.aload_n 0, 0, 0, [true, false]), some (.getfield 204, 6, 20, []), none, none, some (.i2l, 0, 0, []), some (.lreturn, 0, 0, []), some (.iload_n 1, 0, 0, [true, true]), some (.iconst 3, 0, 0, [])],
  [some (.bipush 6, 0, 0, []), none, some (.invokestatic 69, 1, 95, []), none, none, some (.ifCond .eq 15, 0, 0, []), none, none, some (.aload_n 0, 0, 0, [true, true]), some (.getfield 51, 6, 18, []), none, none, some (.iload_n 1, 0, 0, []), some (.iconst 3, 0, 0, []), some (.isub, 0, 0, []), some (.iaload, 0, 0, [])],
  [some (.i2l, 0, 0, []), some (.goto 6, 0, 0, []), none, none, some (.ldc2_w 213, 18446744073709551514, 0, [false, false]), none, none, some (.lreturn, 0, 0, [false, false])]]
def ai_d139 : List (List (Option ai_N)) := [[some (.iload_n 1, 0, 0, []), some (.iconst 0, 0, 0, []), some (.aload_n 0, 0, 0, []), some (.getfield 204, 6, 20, []), none, none, some (.bipush 60, 0, 0, []), none, some (.if_icmp .ge 10, 0, 0, []), none, none, some (.aload_n 0, 0, 0, [true, true]), some (.getfield 204, 6, 20, []), none, none, some (.goto 5, 0, 0, [])],
  [none, none, some (.bipush 60, 0, 0, [true, true]), none, some (.iconst 1, 0, 0, [true, true]), some (.isub, 0, 0, []), some (.invokestatic 69, 1, 95, []), none, none, some (.ifCond .eq 12, 0, 0, []), none, none, some (.aload_n 0, 0, 0, [true, true]), some (.getfield 54, 6, 19, []), none, none],
  [some (.iload_n 1, 0, 0, []), some (.iaload, 0, 0, []), some (.goto 4, 0, 0, []), none, none, some (.iconst 0, 0, 0, [false, false]), some (.ireturn, 0, 0, [false, false])]]
def ai_d140 : List (List (Option ai_N)) := [[some (.iload_n 2, 0, 0, []), some (.invokestatic 77, 1, 96, []), none, none, some (.ifCond .ne 6, 0, 0, []), none, none, some (.bipush (-101), 0, 0, [false, false, false]), none, some (.ireturn, 0, 0, []), some (.iload_n 1, 0, 0, [true, true, true]), some (.iconst 0, 0, 0, []), some (.iconst 1, 0, 0, []), some (.invokestatic 69, 1, 95, []), none, none],
  [some (.ifCond .ne 6, 0, 0, []), none, none, some (.bipush (-102), 0, 0, [false, false, false]), none, some (.ireturn, 0, 0, []), some (.iload_n 1, 0, 0, [true, true, true]), some (.iconst 1, 0, 0, []), some (.if_icmp .ne 15, 0, 0, []), none, none, some (.aload_n 0, 0, 0, [true, true, true]), some (.getfield 182, 6, 6, []), none, none, some (.ifCond .ne 8, 0, 0, [])],
  [none, none, some (.bipush (-103), 0, 0, [false, false, false]), none, some (.goto 14, 0, 0, []), none, none, some (.aload_n 0, 0, 0, [true, true, true]), some (.getfield 22, 6, 4, []), none, none, some (.bipush 8, 0, 0, []), none, some (.iload_n 1, 0, 0, []), some (.imul, 0, 0, []), some (.iload_n 2, 0, 0, [])],
  [some (.iadd, 0, 0, []), some (.iaload, 0, 0, []), some (.ireturn, 0, 0, [false, false, false])]]
def ai_d141 : List (List (Option ai_N)) := [[some (.iload_n 2, 0, 0, []), some (.invokestatic 77, 1, 96, []), none, none, some (.ifCond .ne 7, 0, 0, []), none, none, some (.ldc2_w 157, 18446744073709551515, 0, [false, false, false, false, false, false]), none, none, some (.lreturn, 0, 0, []), some (.iload_n 1, 0, 0, [true, true, true, true, true, false]), some (.iconst 0, 0, 0, []), some (.iconst 1, 0, 0, []), some (.invokestatic 69, 1, 95, []), none],
  [none, some (.ifCond .eq 13, 0, 0, []), none, none, some (.iload 4, 0, 0, [true, true, true, true, true, false]), none, some (.iconst 0, 0, 0, []), some (.iconst 3, 0, 0, []), some (.invokestatic 69, 1, 95, []), none, none, some (.ifCond .ne 7, 0, 0, []), none, none, some (.ldc2_w 213, 18446744073709551514, 0, [false, false, false, false, false, false]), none],
  [none, some (.lreturn, 0, 0, []), some (.iload_n 1, 0, 0, [true, true, true, true, true, false]), some (.iconst 1, 0, 0, []), some (.if_icmp .ne 14, 0, 0, []), none, none, some (.aload_n 0, 0, 0, [true, true, true, true, true, false]), some (.getfield 182, 6, 6, []), none, none, some (.ifCond .ne 7, 0, 0, []), none, none, some (.ldc2_w 215, 18446744073709551513, 0, [false, false, false, false, false, false]), none],
  [none, some (.lreturn, 0, 0, []), some (.iload_n 3, 0, 0, [true, true, true, true, true, false]), some (.iconst 0, 0, 0, []), some (.aload_n 0, 0, 0, []), some (.getfield 22, 6, 4, []), none, none, some (.bipush 8, 0, 0, []), none, some (.iload_n 1, 0, 0, []), some (.imul, 0, 0, []), some (.iload_n 2, 0, 0, []), some (.iadd, 0, 0, []), some (.iaload, 0, 0, []), some (.iconst 1, 0, 0, [])],
  [some (.isub, 0, 0, []), some (.invokestatic 69, 1, 95, []), none, none, some (.ifCond .ne 7, 0, 0, []), none, none, some (.ldc2_w 157, 18446744073709551515, 0, [false, false, false, false, false, false]), none, none, some (.lreturn, 0, 0, []), some (.iload_n 1, 0, 0, [true, true, true, true, true, false]), some (.iload_n 2, 0, 0, []), some (.iload_n 3, 0, 0, []), some (.invokestatic 95, 1, 98, []), none],
  [none, some (.istore 5, 0, 0, []), none, some (.iload 4, 0, 0, []), none, some (.ifCond .ne 14, 0, 0, []), none, none, some (.aload_n 0, 0, 0, [true, false, false, false, false, true]), some (.getfield 7, 6, 0, []), none, none, some (.iload 5, 0, 0, []), none, some (.iaload, 0, 0, []), some (.i2l, 0, 0, [])],
  [some (.goto 45, 0, 0, []), none, none, some (.iload 4, 0, 0, [true, false, false, false, true, true]), none, some (.iconst 1, 0, 0, []), some (.if_icmp .ne 14, 0, 0, []), none, none, some (.aload_n 0, 0, 0, [true, false, false, false, false, true]), some (.getfield 13, 6, 1, []), none, none, some (.iload 5, 0, 0, []), none, some (.iaload, 0, 0, [])],
  [some (.i2l, 0, 0, []), some (.goto 28, 0, 0, []), none, none, some (.iload 4, 0, 0, [true, false, false, false, true, true]), none, some (.iconst 2, 0, 0, []), some (.if_icmp .ne 14, 0, 0, []), none, none, some (.aload_n 0, 0, 0, [true, false, false, false, false, true]), some (.getfield 16, 6, 2, []), none, none, some (.iload 5, 0, 0, []), none],
  [some (.iaload, 0, 0, []), some (.i2l, 0, 0, []), some (.goto 11, 0, 0, []), none, none, some (.aload_n 0, 0, 0, [true, false, false, false, false, true]), some (.getfield 19, 6, 3, []), none, none, some (.iload 5, 0, 0, []), none, some (.iaload, 0, 0, []), some (.i2l, 0, 0, []), some (.lreturn, 0, 0, [false, false, false, false, false, false])]]
def ai_d142 : List (List (Option ai_N)) := [[some (.iconst 0, 0, 0, []), some (.istore_n 1, 0, 0, []), some (.iconst 0, 0, 0, []), some (.istore_n 2, 0, 0, []), some (.iload_n 2, 0, 0, [true, true, true]), some (.bipush 8, 0, 0, []), none, some (.if_icmp .ge 42, 0, 0, []), none, none, some (.iload_n 1, 0, 0, [true, true, true]), some (.aload_n 0, 0, 0, []), some (.getfield 22, 6, 4, []), none, none, some (.iload_n 2, 0, 0, [])],
  [some (.iaload, 0, 0, []), some (.iadd, 0, 0, []), some (.istore_n 1, 0, 0, []), some (.aload_n 0, 0, 0, []), some (.getfield 22, 6, 4, []), none, none, some (.iload_n 2, 0, 0, []), some (.iconst 0, 0, 0, []), some (.iastore, 0, 0, []), some (.aload_n 0, 0, 0, []), some (.getfield 22, 6, 4, []), none, none, some (.bipush 8, 0, 0, []), none],
  [some (.iload_n 2, 0, 0, []), some (.iadd, 0, 0, []), some (.iconst 0, 0, 0, []), some (.iastore, 0, 0, []), some (.aload_n 0, 0, 0, []), some (.getfield 25, 6, 5, []), none, none, some (.iload_n 2, 0, 0, []), some (.iconst 0, 0, 0, []), some (.bastore, 0, 0, []), some (.iinc 2 1, 0, 0, []), none, none, some (.goto (-42), 0, 0, []), none],
  [none, some (.aload_n 0, 0, 0, [true, true, false]), some (.iconst 0, 0, 0, []), some (.putfield 182, 6, 6, []), none, none, some (.iconst 0, 0, 0, []), some (.istore_n 2, 0, 0, []), some (.iload_n 2, 0, 0, [true, true, true]), some (.iconst 4, 0, 0, []), some (.if_icmp .ge 16, 0, 0, []), none, none, some (.aload_n 0, 0, 0, [true, true, true]), some (.getfield 51, 6, 18, []), none],
  [none, some (.iload_n 2, 0, 0, []), some (.iconst 0, 0, 0, []), some (.iastore, 0, 0, []), some (.iinc 2 1, 0, 0, []), none, none, some (.goto (-15), 0, 0, []), none, none, some (.aload_n 0, 0, 0, [true, true, false]), some (.iconst 0, 0, 0, []), some (.putfield 204, 6, 20, []), none, none, some (.aload_n 0, 0, 0, [])],
  [some (.iconst 0, 0, 0, []), some (.putfield 207, 6, 21, []), none, none, some (.aload_n 0, 0, 0, []), some (.iconst 0, 0, 0, []), some (.putfield 191, 6, 22, []), none, none, some (.iload_n 1, 0, 0, []), some (.ireturn, 0, 0, [])]]
def ai_d143 : List (List (Option ai_N)) := [[some (.new 7, 5, 0, []), none, none, some (.dup, 0, 0, []), some (.invokespecial 9, 2, 67, []), none, none, some (.astore_n 1, 0, 0, []), some (.new 10, 6, 0, []), none, none, some (.dup, 0, 0, []), some (.invokespecial 12, 2, 94, []), none, none, some (.astore_n 2, 0, 0, [])],
  [some (.iconst 0, 0, 0, []), some (.istore_n 3, 0, 0, []), some (.iload_n 3, 0, 0, [true, true, true, true]), some (.aload_n 0, 0, 0, []), some (.arraylength, 0, 0, []), some (.bipush 6, 0, 0, []), none, some (.isub, 0, 0, []), some (.if_icmp .gt 628, 0, 0, []), none, none, some (.aload_n 0, 0, 0, [true, true, true, true]), some (.iload_n 3, 0, 0, []), some (.iaload, 0, 0, []), some (.bipush 15, 0, 0, []), none],
  [some (.iand, 0, 0, []), some (.tableswitch 613 0 15 #[79, 142, 165, 214, 227, 280, 303, 326, 359, 402, 445, 468, 491, 514, 547, 600], 0, 0, []), none, none, none, none, none, none, none, none, none, none, none, none, none, none],
  [none, none, none, none, none, none, none, none, none, none, none, none, none, none, none, none],
  [none, none, none, none, none, none, none, none, none, none, none, none, none, none, none, none],
  [none, none, none, none, none, none, none, none, none, none, none, none, none, none, none, none],
  [none, none, none, none, none, none, none, none, none, none, none, none, none, none, none, none],
  [some (.aload_n 1, 0, 0, [true, true, true, true]), some (.aload_n 0, 0, 0, []), some (.iload_n 3, 0, 0, []), some (.iconst 1, 0, 0, []), some (.iadd, 0, 0, []), some (.iaload, 0, 0, []), some (.aload_n 0, 0, 0, []), some (.iload_n 3, 0, 0, []), some (.iconst 2, 0, 0, []), some (.iadd, 0, 0, []), some (.iaload, 0, 0, []), some (.aload_n 0, 0, 0, []), some (.iload_n 3, 0, 0, []), some (.iconst 3, 0, 0, []), some (.iadd, 0, 0, []), some (.iaload, 0, 0, [])],
  [some (.aload_n 0, 0, 0, []), some (.iload_n 3, 0, 0, []), some (.iconst 4, 0, 0, []), some (.iadd, 0, 0, []), some (.iaload, 0, 0, []), some (.aload_n 0, 0, 0, []), some (.iload_n 3, 0, 0, []), some (.iconst 5, 0, 0, []), some (.iadd, 0, 0, []), some (.iaload, 0, 0, []), some (.invokevirtual 13, 0, 68, []), none, none, some (.aload_n 2, 0, 0, []), some (.aload_n 0, 0, 0, []), some (.iload_n 3, 0, 0, [])],
  [some (.iconst 1, 0, 0, []), some (.iadd, 0, 0, []), some (.iaload, 0, 0, []), some (.aload_n 0, 0, 0, []), some (.iload_n 3, 0, 0, []), some (.iconst 2, 0, 0, []), some (.iadd, 0, 0, []), some (.iaload, 0, 0, []), some (.aload_n 0, 0, 0, []), some (.iload_n 3, 0, 0, []), some (.iconst 3, 0, 0, []), some (.iadd, 0, 0, []), some (.iaload, 0, 0, []), some (.aload_n 0, 0, 0, []), some (.iload_n 3, 0, 0, []), some (.iconst 4, 0, 0, [])],
  [some (.iadd, 0, 0, []), some (.iaload, 0, 0, []), some (.aload_n 0, 0, 0, []), some (.iload_n 3, 0, 0, []), some (.iconst 5, 0, 0, []), some (.iadd, 0, 0, []), some (.iaload, 0, 0, []), some (.invokevirtual 17, 0, 103, []), none, none, some (.if_icmp .eq 476, 0, 0, []), none, none, some (.iconst 0, 0, 0, [false, false, false, false]), some (.ireturn, 0, 0, []), some (.aload_n 1, 0, 0, [true, true, true, true])],
  [some (.aload_n 0, 0, 0, []), some (.iload_n 3, 0, 0, []), some (.iconst 1, 0, 0, []), some (.iadd, 0, 0, []), some (.iaload, 0, 0, []), some (.invokevirtual 18, 0, 69, []), none, none, some (.pop, 0, 0, []), some (.aload_n 2, 0, 0, []), some (.aload_n 0, 0, 0, []), some (.iload_n 3, 0, 0, []), some (.iconst 1, 0, 0, []), some (.iadd, 0, 0, []), some (.iaload, 0, 0, []), some (.invokevirtual 22, 0, 104, [])],
  [none, none, some (.pop, 0, 0, []), some (.goto 451, 0, 0, []), none, none, some (.aload_n 1, 0, 0, [true, true, true, true]), some (.aload_n 0, 0, 0, []), some (.iload_n 3, 0, 0, []), some (.iconst 1, 0, 0, []), some (.iadd, 0, 0, []), some (.iaload, 0, 0, []), some (.aload_n 0, 0, 0, []), some (.iload_n 3, 0, 0, []), some (.iconst 2, 0, 0, []), some (.iadd, 0, 0, [])],
  [some (.iaload, 0, 0, []), some (.ifCond .eq 7, 0, 0, []), none, none, some (.iconst 1, 0, 0, [true, true, true, true]), some (.goto 4, 0, 0, []), none, none, some (.iconst 0, 0, 0, [true, true, true, true]), some (.invokevirtual 23, 0, 70, [true, true, true, true]), none, none, some (.pop, 0, 0, []), some (.aload_n 2, 0, 0, []), some (.aload_n 0, 0, 0, []), some (.iload_n 3, 0, 0, [])],
  [some (.iconst 1, 0, 0, []), some (.iadd, 0, 0, []), some (.iaload, 0, 0, []), some (.aload_n 0, 0, 0, []), some (.iload_n 3, 0, 0, []), some (.iconst 2, 0, 0, []), some (.iadd, 0, 0, []), some (.iaload, 0, 0, []), some (.ifCond .eq 7, 0, 0, []), none, none, some (.iconst 1, 0, 0, [true, true, true, true]), some (.goto 4, 0, 0, []), none, none, some (.iconst 0, 0, 0, [true, true, true, true])],
  [some (.invokevirtual 27, 0, 105, [true, true, true, true]), none, none, some (.pop, 0, 0, []), some (.goto 402, 0, 0, []), none, none, some (.aload_n 1, 0, 0, [true, true, true, true]), some (.invokevirtual 28, 0, 71, []), none, none, some (.pop, 0, 0, []), some (.aload_n 2, 0, 0, []), some (.invokevirtual 32, 0, 133, []), none, none],
  [some (.pop, 0, 0, []), some (.goto 389, 0, 0, []), none, none, some (.aload_n 1, 0, 0, [true, true, true, true]), some (.aload_n 0, 0, 0, []), some (.iload_n 3, 0, 0, []), some (.iconst 1, 0, 0, []), some (.iadd, 0, 0, []), some (.iaload, 0, 0, []), some (.aload_n 0, 0, 0, []), some (.iload_n 3, 0, 0, []), some (.iconst 2, 0, 0, []), some (.iadd, 0, 0, []), some (.iaload, 0, 0, []), some (.aload_n 0, 0, 0, [])],
  [some (.iload_n 3, 0, 0, []), some (.iconst 3, 0, 0, []), some (.iadd, 0, 0, []), some (.iaload, 0, 0, []), some (.aload_n 0, 0, 0, []), some (.iload_n 3, 0, 0, []), some (.iconst 4, 0, 0, []), some (.iadd, 0, 0, []), some (.iaload, 0, 0, []), some (.invokevirtual 33, 0, 72, []), none, none, some (.pop, 0, 0, []), some (.aload_n 2, 0, 0, []), some (.aload_n 0, 0, 0, []), some (.iload_n 3, 0, 0, [])],
  [some (.iconst 1, 0, 0, []), some (.iadd, 0, 0, []), some (.iaload, 0, 0, []), some (.aload_n 0, 0, 0, []), some (.iload_n 3, 0, 0, []), some (.iconst 2, 0, 0, []), some (.iadd, 0, 0, []), some (.iaload, 0, 0, []), some (.aload_n 0, 0, 0, []), some (.iload_n 3, 0, 0, []), some (.iconst 3, 0, 0, []), some (.iadd, 0, 0, []), some (.iaload, 0, 0, []), some (.aload_n 0, 0, 0, []), some (.iload_n 3, 0, 0, []), some (.iconst 4, 0, 0, [])],
  [some (.iadd, 0, 0, []), some (.iaload, 0, 0, []), some (.invokevirtual 37, 0, 137, []), none, none, some (.pop, 0, 0, []), some (.goto 336, 0, 0, []), none, none, some (.aload_n 1, 0, 0, [true, true, true, true]), some (.aload_n 0, 0, 0, []), some (.iload_n 3, 0, 0, []), some (.iconst 1, 0, 0, []), some (.iadd, 0, 0, []), some (.iaload, 0, 0, []), some (.invokevirtual 38, 0, 73, [])],
  [none, none, some (.pop2, 0, 0, []), some (.aload_n 2, 0, 0, []), some (.aload_n 0, 0, 0, []), some (.iload_n 3, 0, 0, []), some (.iconst 1, 0, 0, []), some (.iadd, 0, 0, []), some (.iaload, 0, 0, []), some (.invokevirtual 42, 0, 138, []), none, none, some (.pop2, 0, 0, []), some (.goto 313, 0, 0, []), none, none],
  [some (.aload_n 1, 0, 0, [true, true, true, true]), some (.aload_n 0, 0, 0, []), some (.iload_n 3, 0, 0, []), some (.iconst 1, 0, 0, []), some (.iadd, 0, 0, []), some (.iaload, 0, 0, []), some (.invokevirtual 43, 0, 74, []), none, none, some (.pop, 0, 0, []), some (.aload_n 2, 0, 0, []), some (.aload_n 0, 0, 0, []), some (.iload_n 3, 0, 0, []), some (.iconst 1, 0, 0, []), some (.iadd, 0, 0, []), some (.iaload, 0, 0, [])],
  [some (.invokevirtual 46, 0, 139, []), none, none, some (.pop, 0, 0, []), some (.goto 290, 0, 0, []), none, none, some (.aload_n 1, 0, 0, [true, true, true, true]), some (.aload_n 0, 0, 0, []), some (.iload_n 3, 0, 0, []), some (.iconst 1, 0, 0, []), some (.iadd, 0, 0, []), some (.iaload, 0, 0, []), some (.aload_n 0, 0, 0, []), some (.iload_n 3, 0, 0, []), some (.iconst 2, 0, 0, [])],
  [some (.iadd, 0, 0, []), some (.iaload, 0, 0, []), some (.invokevirtual 47, 0, 75, []), none, none, some (.pop, 0, 0, []), some (.aload_n 2, 0, 0, []), some (.aload_n 0, 0, 0, []), some (.iload_n 3, 0, 0, []), some (.iconst 1, 0, 0, []), some (.iadd, 0, 0, []), some (.iaload, 0, 0, []), some (.aload_n 0, 0, 0, []), some (.iload_n 3, 0, 0, []), some (.iconst 2, 0, 0, []), some (.iadd, 0, 0, [])],
  [some (.iaload, 0, 0, []), some (.invokevirtual 51, 0, 120, []), none, none, some (.pop, 0, 0, []), some (.goto 257, 0, 0, []), none, none, some (.aload_n 1, 0, 0, [true, true, true, true]), some (.aload_n 0, 0, 0, []), some (.iload_n 3, 0, 0, []), some (.iconst 1, 0, 0, []), some (.iadd, 0, 0, []), some (.iaload, 0, 0, []), some (.aload_n 0, 0, 0, []), some (.iload_n 3, 0, 0, [])],
  [some (.iconst 2, 0, 0, []), some (.iadd, 0, 0, []), some (.iaload, 0, 0, []), some (.aload_n 0, 0, 0, []), some (.iload_n 3, 0, 0, []), some (.iconst 3, 0, 0, []), some (.iadd, 0, 0, []), some (.iaload, 0, 0, []), some (.invokevirtual 52, 0, 76, []), none, none, some (.pop2, 0, 0, []), some (.aload_n 2, 0, 0, []), some (.aload_n 0, 0, 0, []), some (.iload_n 3, 0, 0, []), some (.iconst 1, 0, 0, [])],
  [some (.iadd, 0, 0, []), some (.iaload, 0, 0, []), some (.aload_n 0, 0, 0, []), some (.iload_n 3, 0, 0, []), some (.iconst 2, 0, 0, []), some (.iadd, 0, 0, []), some (.iaload, 0, 0, []), some (.aload_n 0, 0, 0, []), some (.iload_n 3, 0, 0, []), some (.iconst 3, 0, 0, []), some (.iadd, 0, 0, []), some (.iaload, 0, 0, []), some (.invokevirtual 56, 0, 121, []), none, none, some (.pop2, 0, 0, [])],
  [some (.goto 214, 0, 0, []), none, none, some (.aload_n 1, 0, 0, [true, true, true, true]), some (.aload_n 0, 0, 0, []), some (.iload_n 3, 0, 0, []), some (.iconst 1, 0, 0, []), some (.iadd, 0, 0, []), some (.iaload, 0, 0, []), some (.aload_n 0, 0, 0, []), some (.iload_n 3, 0, 0, []), some (.iconst 2, 0, 0, []), some (.iadd, 0, 0, []), some (.iaload, 0, 0, []), some (.aload_n 0, 0, 0, []), some (.iload_n 3, 0, 0, [])],
  [some (.iconst 3, 0, 0, []), some (.iadd, 0, 0, []), some (.iaload, 0, 0, []), some (.invokevirtual 57, 0, 77, []), none, none, some (.pop, 0, 0, []), some (.aload_n 2, 0, 0, []), some (.aload_n 0, 0, 0, []), some (.iload_n 3, 0, 0, []), some (.iconst 1, 0, 0, []), some (.iadd, 0, 0, []), some (.iaload, 0, 0, []), some (.aload_n 0, 0, 0, []), some (.iload_n 3, 0, 0, []), some (.iconst 2, 0, 0, [])],
  [some (.iadd, 0, 0, []), some (.iaload, 0, 0, []), some (.aload_n 0, 0, 0, []), some (.iload_n 3, 0, 0, []), some (.iconst 3, 0, 0, []), some (.iadd, 0, 0, []), some (.iaload, 0, 0, []), some (.invokevirtual 61, 0, 122, []), none, none, some (.pop, 0, 0, []), some (.goto 171, 0, 0, []), none, none, some (.aload_n 1, 0, 0, [true, true, true, true]), some (.aload_n 0, 0, 0, [])],
  [some (.iload_n 3, 0, 0, []), some (.iconst 1, 0, 0, []), some (.iadd, 0, 0, []), some (.iaload, 0, 0, []), some (.invokevirtual 62, 0, 78, []), none, none, some (.pop, 0, 0, []), some (.aload_n 2, 0, 0, []), some (.aload_n 0, 0, 0, []), some (.iload_n 3, 0, 0, []), some (.iconst 1, 0, 0, []), some (.iadd, 0, 0, []), some (.iaload, 0, 0, []), some (.invokevirtual 65, 0, 124, []), none],
  [none, some (.pop, 0, 0, []), some (.goto 148, 0, 0, []), none, none, some (.aload_n 1, 0, 0, [true, true, true, true]), some (.aload_n 0, 0, 0, []), some (.iload_n 3, 0, 0, []), some (.iconst 1, 0, 0, []), some (.iadd, 0, 0, []), some (.iaload, 0, 0, []), some (.invokevirtual 66, 0, 79, []), none, none, some (.pop, 0, 0, []), some (.aload_n 2, 0, 0, [])],
  [some (.aload_n 0, 0, 0, []), some (.iload_n 3, 0, 0, []), some (.iconst 1, 0, 0, []), some (.iadd, 0, 0, []), some (.iaload, 0, 0, []), some (.invokevirtual 69, 0, 125, []), none, none, some (.pop, 0, 0, []), some (.goto 125, 0, 0, []), none, none, some (.aload_n 1, 0, 0, [true, true, true, true]), some (.aload_n 0, 0, 0, []), some (.iload_n 3, 0, 0, []), some (.iconst 1, 0, 0, [])],
  [some (.iadd, 0, 0, []), some (.iaload, 0, 0, []), some (.invokevirtual 70, 0, 80, []), none, none, some (.pop, 0, 0, []), some (.aload_n 2, 0, 0, []), some (.aload_n 0, 0, 0, []), some (.iload_n 3, 0, 0, []), some (.iconst 1, 0, 0, []), some (.iadd, 0, 0, []), some (.iaload, 0, 0, []), some (.invokevirtual 73, 0, 130, []), none, none, some (.pop, 0, 0, [])],
  [some (.goto 102, 0, 0, []), none, none, some (.aload_n 1, 0, 0, [true, true, true, true]), some (.aload_n 0, 0, 0, []), some (.iload_n 3, 0, 0, []), some (.iconst 1, 0, 0, []), some (.iadd, 0, 0, []), some (.iaload, 0, 0, []), some (.aload_n 0, 0, 0, []), some (.iload_n 3, 0, 0, []), some (.iconst 2, 0, 0, []), some (.iadd, 0, 0, []), some (.iaload, 0, 0, []), some (.invokevirtual 74, 0, 81, []), none],
  [none, some (.pop, 0, 0, []), some (.aload_n 2, 0, 0, []), some (.aload_n 0, 0, 0, []), some (.iload_n 3, 0, 0, []), some (.iconst 1, 0, 0, []), some (.iadd, 0, 0, []), some (.iaload, 0, 0, []), some (.aload_n 0, 0, 0, []), some (.iload_n 3, 0, 0, []), some (.iconst 2, 0, 0, []), some (.iadd, 0, 0, []), some (.iaload, 0, 0, []), some (.invokevirtual 77, 0, 140, []), none, none],
  [some (.pop, 0, 0, []), some (.goto 69, 0, 0, []), none, none, some (.aload_n 1, 0, 0, [true, true, true, true]), some (.aload_n 0, 0, 0, []), some (.iload_n 3, 0, 0, []), some (.iconst 1, 0, 0, []), some (.iadd, 0, 0, []), some (.iaload, 0, 0, []), some (.aload_n 0, 0, 0, []), some (.iload_n 3, 0, 0, []), some (.iconst 2, 0, 0, []), some (.iadd, 0, 0, []), some (.iaload, 0, 0, []), some (.aload_n 0, 0, 0, [])],
  [some (.iload_n 3, 0, 0, []), some (.iconst 3, 0, 0, []), some (.iadd, 0, 0, []), some (.iaload, 0, 0, []), some (.aload_n 0, 0, 0, []), some (.iload_n 3, 0, 0, []), some (.iconst 4, 0, 0, []), some (.iadd, 0, 0, []), some (.iaload, 0, 0, []), some (.invokevirtual 78, 0, 82, []), none, none, some (.pop2, 0, 0, []), some (.aload_n 2, 0, 0, []), some (.aload_n 0, 0, 0, []), some (.iload_n 3, 0, 0, [])],
  [some (.iconst 1, 0, 0, []), some (.iadd, 0, 0, []), some (.iaload, 0, 0, []), some (.aload_n 0, 0, 0, []), some (.iload_n 3, 0, 0, []), some (.iconst 2, 0, 0, []), some (.iadd, 0, 0, []), some (.iaload, 0, 0, []), some (.aload_n 0, 0, 0, []), some (.iload_n 3, 0, 0, []), some (.iconst 3, 0, 0, []), some (.iadd, 0, 0, []), some (.iaload, 0, 0, []), some (.aload_n 0, 0, 0, []), some (.iload_n 3, 0, 0, []), some (.iconst 4, 0, 0, [])],
  [some (.iadd, 0, 0, []), some (.iaload, 0, 0, []), some (.invokevirtual 82, 0, 141, []), none, none, some (.pop2, 0, 0, []), some (.goto 16, 0, 0, []), none, none, some (.aload_n 1, 0, 0, [true, true, true, true]), some (.invokevirtual 83, 0, 83, []), none, none, some (.pop, 0, 0, []), some (.aload_n 2, 0, 0, []), some (.invokevirtual 86, 0, 142, [])],
  [none, none, some (.pop, 0, 0, []), some (.goto 3, 0, 0, []), none, none, some (.iinc 3 6, 0, 0, [true, true, true, true]), none, none, some (.goto (-631), 0, 0, []), none, none, some (.iconst 1, 0, 0, [false, false, false, false]), some (.ireturn, 0, 0, [])]]
def ai_r0 : ai_R := (0, yX0_init, cX0_init, 1, none, 1, ai_d0)
def ai_r1 : ai_R := (0, yX0_count, cX0_count, 1, (some .int), 1, ai_d1)
def ai_r2 : ai_R := (0, yX0_has, cX0_has, 2, (some .boolean), 2, ai_d2)
def ai_r3 : ai_R := (0, yX0_isFull, cX0_isFull, 1, (some .boolean), 1, ai_d3)
def ai_r4 : ai_R := (0, yX0_cell, cX0_cell, 3, (some .int), 3, ai_d4)
def ai_r5 : ai_R := (0, yX0_append, cX0_append, 6, (some .int), 5, ai_d5)
def ai_r6 : ai_R := (0, yX0_write, cX0_write, 7, none, 6, ai_d6)
def ai_r7 : ai_R := (0, yX0_drop, cX0_drop, 1, (some .int), 1, ai_d7)
def ai_r8 : ai_R := (0, yX0_shorten, cX0_shorten, 3, (some .int), 2, ai_d8)
def ai_r9 : ai_R := (0, yX0_copy, cX0_copy, 2, none, 2, ai_d9)
def ai_r10 : ai_R := (0, yX0_readAt, cX0_readAt, 3, (some .int), 2, ai_d10)
def ai_r11 : ai_R := (0, yX0_setAt, cX0_setAt, 2, (some .int), 2, ai_d11)
def ai_r12 : ai_R := (0, yX0_isDoubleOf, cX0_isDoubleOf, 4, (some .boolean), 2, ai_d12)
def ai_r13 : ai_R := (0, yX0_hasSameParts, cX0_hasSameParts, 7, (some .boolean), 4, ai_d13)
def ai_r14 : ai_R := (0, yX0_namesThreeFirst, cX0_namesThreeFirst, 3, (some .boolean), 1, ai_d14)
def ai_r15 : ai_R := (1, yX1_init, cX1_init, 1, none, 1, ai_d15)
def ai_r16 : ai_R := (1, yX1_isReached, cX1_isReached, 2, (some .boolean), 2, ai_d16)
def ai_r17 : ai_R := (1, yX1_valueAhead, cX1_valueAhead, 3, (some .long), 3, ai_d17)
def ai_r18 : ai_R := (1, yX1_isReadBehind, cX1_isReadBehind, 3, (some .boolean), 3, ai_d18)
def ai_r19 : ai_R := (1, yX1_marksAt, cX1_marksAt, 3, (some .int), 3, ai_d19)
def ai_r20 : ai_R := (1, yX1_idleMark, cX1_idleMark, 3, (some .int), 3, ai_d20)
def ai_r21 : ai_R := (1, yX1_canFail, cX1_canFail, 5, (some .boolean), 3, ai_d21)
def ai_r22 : ai_R := (1, yX1_isSafeDivision, cX1_isSafeDivision, 5, (some .boolean), 3, ai_d22)
def ai_r23 : ai_R := (1, yX1_takenMark, cX1_takenMark, 7, (some .int), 3, ai_d23)
def ai_r24 : ai_R := (1, yX1_partAhead, cX1_partAhead, 4, (some .long), 4, ai_d24)
def ai_r25 : ai_R := (1, yX1_findValues, cX1_findValues, 5, none, 2, ai_d25)
def ai_r26 : ai_R := (1, yX1_goOn, cX1_goOn, 4, (some .boolean), 3, ai_d26)
def ai_r27 : ai_R := (1, yX1_bring, cX1_bring, 8, (some .boolean), 3, ai_d27)
def ai_r28 : ai_R := (1, yX1_makeBrought, cX1_makeBrought, 5, none, 3, ai_d28)
def ai_r29 : ai_R := (1, yX1_made, cX1_made, 5, (some .long), 3, ai_d29)
def ai_r30 : ai_R := (1, yX1_goesNext, cX1_goesNext, 3, (some .boolean), 3, ai_d30)
def ai_r31 : ai_R := (1, yX1_jumpFrom, cX1_jumpFrom, 3, (some .int), 3, ai_d31)
def ai_r32 : ai_R := (1, yX1_findReads, cX1_findReads, 6, none, 2, ai_d32)
def ai_r33 : ai_R := (1, yX1_readOn, cX1_readOn, 4, (some .int), 3, ai_d33)
def ai_r34 : ai_R := (1, yX1_readFrom, cX1_readFrom, 3, (some .int), 3, ai_d34)
def ai_r35 : ai_R := (2, yX2_init, cX2_init, 1, none, 1, ai_d35)
def ai_r36 : ai_R := (2, yX2_given, cX2_given, 1, (some .int), 1, ai_d36)
def ai_r37 : ai_R := (2, yX2_done, cX2_done, 1, (some .int), 1, ai_d37)
def ai_r38 : ai_R := (2, yX2_spokenCount, cX2_spokenCount, 1, (some .int), 1, ai_d38)
def ai_r39 : ai_R := (2, yX2_fieldValue, cX2_fieldValue, 2, (some .int), 2, ai_d39)
def ai_r40 : ai_R := (2, yX2_spokenAt, cX2_spokenAt, 2, (some .int), 2, ai_d40)
def ai_r41 : ai_R := (2, yX2_forget, cX2_forget, 2, none, 1, ai_d41)
def ai_r42 : ai_R := (2, yX2_perform, cX2_perform, 6, (some .int), 5, ai_d42)
def ai_r43 : ai_R := (2, yX2_enter, cX2_enter, 5, none, 4, ai_d43)
def ai_r44 : ai_R := (2, yX2_takeTurn, cX2_takeTurn, 4, none, 2, ai_d44)
def ai_r45 : ai_R := (2, yX2_leave, cX2_leave, 4, none, 3, ai_d45)
def ai_r46 : ai_R := (2, yX2_follow, cX2_follow, 8, none, 4, ai_d46)
def ai_r47 : ai_R := (2, yX2_divide, cX2_divide, 4, none, 4, ai_d47)
def ai_r48 : ai_R := (2, yX2_check, cX2_check, 2, none, 2, ai_d48)
def ai_r49 : ai_R := (2, yX2_speak, cX2_speak, 2, none, 2, ai_d49)
def ai_r50 : ai_R := (2, yX2_register, cX2_register, 2, (some .int), 2, ai_d50)
def ai_r51 : ai_R := (2, yX2_setRegister, cX2_setRegister, 3, none, 3, ai_d51)
def ai_r52 : ai_R := (2, yX2_setAndGo, cX2_setAndGo, 3, none, 3, ai_d52)
def ai_r53 : ai_R := (2, yX2_goNext, cX2_goNext, 1, none, 1, ai_d53)
def ai_r54 : ai_R := (3, yX3_init, cX3_init, 1, none, 1, ai_d54)
def ai_r55 : ai_R := (3, yX3_shrink, cX3_shrink, 5, none, 3, ai_d55)
def ai_r56 : ai_R := (3, yX3_countStaying, cX3_countStaying, 5, none, 3, ai_d56)
def ai_r57 : ai_R := (3, yX3_stays, cX3_stays, 1, (some .boolean), 1, ai_d57)
def ai_r58 : ai_R := (3, yX3_rewrite, cX3_rewrite, 6, (some .boolean), 3, ai_d58)
def ai_r59 : ai_R := (3, yX3_rewriteOne, cX3_rewriteOne, 10, (some .boolean), 4, ai_d59)
def ai_r60 : ai_R := (4, yX4_init, cX4_init, 1, none, 1, ai_d60)
def ai_r61 : ai_R := (4, yX4_isUsed, cX4_isUsed, 2, (some .boolean), 2, ai_d61)
def ai_r62 : ai_R := (4, yX4_ofField, cX4_ofField, 2, (some .int), 2, ai_d62)
def ai_r63 : ai_R := (4, yX4_find, cX4_find, 6, none, 4, ai_d63)
def ai_r64 : ai_R := (4, yX4_nextToVisit, cX4_nextToVisit, 2, (some .int), 1, ai_d64)
def ai_r65 : ai_R := (4, yX4_noteReached, cX4_noteReached, 4, none, 3, ai_d65)
def ai_r66 : ai_R := (4, yX4_note, cX4_note, 3, none, 3, ai_d66)
def ai_r67 : ai_R := (5, yX5_init, cX5_init, 2, none, 1, ai_d67)
def ai_r68 : ai_R := (5, yX5_put, cX5_put, 6, (some .int), 6, ai_d68)
def ai_r69 : ai_R := (5, yX5_cut, cX5_cut, 2, (some .int), 2, ai_d69)
def ai_r70 : ai_R := (5, yX5_root, cX5_root, 4, (some .int), 3, ai_d70)
def ai_r71 : ai_R := (5, yX5_trial, cX5_trial, 3, (some .int), 1, ai_d71)
def ai_r72 : ai_R := (5, yX5_run, cX5_run, 6, (some .int), 5, ai_d72)
def ai_r73 : ai_R := (5, yX5_told, cX5_told, 2, (some .long), 2, ai_d73)
def ai_r74 : ai_R := (5, yX5_said, cX5_said, 2, (some .int), 2, ai_d74)
def ai_r75 : ai_R := (5, yX5_marks, cX5_marks, 3, (some .int), 3, ai_d75)
def ai_r76 : ai_R := (5, yX5_known, cX5_known, 4, (some .long), 4, ai_d76)
def ai_r77 : ai_R := (5, yX5_read, cX5_read, 4, (some .int), 4, ai_d77)
def ai_r78 : ai_R := (5, yX5_used, cX5_used, 2, (some .int), 2, ai_d78)
def ai_r79 : ai_R := (5, yX5_field, cX5_field, 2, (some .int), 2, ai_d79)
def ai_r80 : ai_R := (5, yX5_doubled, cX5_doubled, 3, (some .int), 2, ai_d80)
def ai_r81 : ai_R := (5, yX5_size, cX5_size, 4, (some .int), 3, ai_d81)
def ai_r82 : ai_R := (5, yX5_part, cX5_part, 7, (some .long), 5, ai_d82)
def ai_r83 : ai_R := (5, yX5_clear, cX5_clear, 3, (some .int), 1, ai_d83)
def ai_r84 : ai_R := (5, yX5_refusal, cX5_refusal, 3, (some .int), 3, ai_d84)
def ai_r85 : ai_R := (5, yX5_programOf, cX5_programOf, 2, (some (.array (.object "DeadCode$Code"))), 2, ai_d85)
def ai_r86 : ai_R := (5, yX5_isInstruction, cX5_isInstruction, 3, (some .boolean), 3, ai_d86)
def ai_r87 : ai_R := (5, yX5_isMember, cX5_isMember, 1, (some .boolean), 1, ai_d87)
def ai_r88 : ai_R := (5, yX5_isRegister, cX5_isRegister, 1, (some .boolean), 1, ai_d88)
def ai_r89 : ai_R := (5, yX5_isField, cX5_isField, 1, (some .boolean), 1, ai_d89)
def ai_r90 : ai_R := (5, yX5_shapeOf, cX5_shapeOf, 2, (some .int), 2, ai_d90)
def ai_r91 : ai_R := (5, yX5_isThere, cX5_isThere, 3, (some .boolean), 3, ai_d91)
def ai_r92 : ai_R := (5, yX5_isWithin, cX5_isWithin, 3, (some .boolean), 3, ai_d92)
def ai_r93 : ai_R := (5, yX5_together, cX5_together, 3, (some .int), 3, ai_d93)
def ai_r94 : ai_R := (6, yX6_init, cX6_init, 1, none, 1, ai_d94)
def ai_r95 : ai_R := (6, yX6_in, cX6_in, 3, (some .boolean), 3, ai_d95)
def ai_r96 : ai_R := (6, yX6_isMember, cX6_isMember, 1, (some .boolean), 1, ai_d96)
def ai_r97 : ai_R := (6, yX6_isRegister, cX6_isRegister, 1, (some .boolean), 1, ai_d97)
def ai_r98 : ai_R := (6, yX6_at, cX6_at, 3, (some .int), 3, ai_d98)
def ai_r99 : ai_R := (6, yX6_named, cX6_named, 1, (some .int), 1, ai_d99)
def ai_r100 : ai_R := (6, yX6_nameOf, cX6_nameOf, 3, (some .int), 2, ai_d100)
def ai_r101 : ai_R := (6, yX6_isThere, cX6_isThere, 2, (some .boolean), 2, ai_d101)
def ai_r102 : ai_R := (6, yX6_isOutside, cX6_isOutside, 2, (some .boolean), 2, ai_d102)
def ai_r103 : ai_R := (6, yX6_put, cX6_put, 10, (some .int), 6, ai_d103)
def ai_r104 : ai_R := (6, yX6_cut, cX6_cut, 3, (some .int), 2, ai_d104)
def ai_r105 : ai_R := (6, yX6_root, cX6_root, 4, (some .int), 3, ai_d105)
def ai_r106 : ai_R := (6, yX6_brings, cX6_brings, 5, none, 2, ai_d106)
def ai_r107 : ai_R := (6, yX6_made, cX6_made, 7, (some .long), 3, ai_d107)
def ai_r108 : ai_R := (6, yX6_taken, cX6_taken, 6, (some .int), 2, ai_d108)
def ai_r109 : ai_R := (6, yX6_goesOn, cX6_goesOn, 3, (some .boolean), 2, ai_d109)
def ai_r110 : ai_R := (6, yX6_jumps, cX6_jumps, 2, (some .boolean), 2, ai_d110)
def ai_r111 : ai_R := (6, yX6_goal, cX6_goal, 2, (some .int), 2, ai_d111)
def ai_r112 : ai_R := (6, yX6_goOn, cX6_goOn, 5, none, 2, ai_d112)
def ai_r113 : ai_R := (6, yX6_know, cX6_know, 4, none, 3, ai_d113)
def ai_r114 : ai_R := (6, yX6_readsOf, cX6_readsOf, 3, (some .int), 2, ai_d114)
def ai_r115 : ai_R := (6, yX6_sets, cX6_sets, 3, (some .boolean), 2, ai_d115)
def ai_r116 : ai_R := (6, yX6_find, cX6_find, 8, none, 3, ai_d116)
def ai_r117 : ai_R := (6, yX6_isIdle, cX6_isIdle, 7, (some .boolean), 2, ai_d117)
def ai_r118 : ai_R := (6, yX6_marksOf, cX6_marksOf, 6, (some .int), 2, ai_d118)
def ai_r119 : ai_R := (6, yX6_isPlace, cX6_isPlace, 3, (some .boolean), 3, ai_d119)
def ai_r120 : ai_R := (6, yX6_marks, cX6_marks, 3, (some .int), 3, ai_d120)
def ai_r121 : ai_R := (6, yX6_known, cX6_known, 4, (some .long), 4, ai_d121)
def ai_r122 : ai_R := (6, yX6_read, cX6_read, 4, (some .int), 4, ai_d122)
def ai_r123 : ai_R := (6, yX6_findUsed, cX6_findUsed, 4, none, 1, ai_d123)
def ai_r124 : ai_R := (6, yX6_used, cX6_used, 2, (some .int), 2, ai_d124)
def ai_r125 : ai_R := (6, yX6_field, cX6_field, 7, (some .int), 2, ai_d125)
def ai_r126 : ai_R := (6, yX6_namedBy, cX6_namedBy, 3, (some .int), 3, ai_d126)
def ai_r127 : ai_R := (6, yX6_firstOf, cX6_firstOf, 5, (some .int), 2, ai_d127)
def ai_r128 : ai_R := (6, yX6_renamed, cX6_renamed, 2, (some .int), 2, ai_d128)
def ai_r129 : ai_R := (6, yX6_isLike, cX6_isLike, 11, (some .boolean), 3, ai_d129)
def ai_r130 : ai_R := (6, yX6_doubled, cX6_doubled, 3, (some .int), 2, ai_d130)
def ai_r131 : ai_R := (6, yX6_staying, cX6_staying, 4, (some .int), 2, ai_d131)
def ai_r132 : ai_R := (6, yX6_isLessened, cX6_isLessened, 8, (some .boolean), 2, ai_d132)
def ai_r133 : ai_R := (6, yX6_trial, cX6_trial, 6, (some .int), 1, ai_d133)
def ai_r134 : ai_R := (6, yX6_begins, cX6_begins, 5, none, 5, ai_d134)
def ai_r135 : ai_R := (6, yX6_gives, cX6_gives, 2, none, 2, ai_d135)
def ai_r136 : ai_R := (6, yX6_does, cX6_does, 7, none, 2, ai_d136)
def ai_r137 : ai_R := (6, yX6_run, cX6_run, 7, (some .int), 5, ai_d137)
def ai_r138 : ai_R := (6, yX6_told, cX6_told, 2, (some .long), 2, ai_d138)
def ai_r139 : ai_R := (6, yX6_said, cX6_said, 2, (some .int), 2, ai_d139)
def ai_r140 : ai_R := (6, yX6_size, cX6_size, 3, (some .int), 3, ai_d140)
def ai_r141 : ai_R := (6, yX6_part, cX6_part, 6, (some .long), 5, ai_d141)
def ai_r142 : ai_R := (6, yX6_clear, cX6_clear, 3, (some .int), 1, ai_d142)
def ai_r143 : ai_R := (7, x, cL_law, 4, (some .boolean), 1, ai_d143)
def ai_ms : List ai_R := [ai_r0, ai_r1, ai_r2, ai_r3, ai_r4, ai_r5, ai_r6, ai_r7, ai_r8, ai_r9, ai_r10, ai_r11, ai_r12, ai_r13, ai_r14, ai_r15, ai_r16, ai_r17, ai_r18, ai_r19, ai_r20, ai_r21, ai_r22, ai_r23, ai_r24, ai_r25, ai_r26, ai_r27, ai_r28, ai_r29, ai_r30, ai_r31, ai_r32, ai_r33, ai_r34, ai_r35, ai_r36, ai_r37, ai_r38, ai_r39, ai_r40, ai_r41, ai_r42, ai_r43, ai_r44, ai_r45, ai_r46, ai_r47, ai_r48, ai_r49, ai_r50, ai_r51, ai_r52, ai_r53, ai_r54, ai_r55, ai_r56, ai_r57, ai_r58, ai_r59, ai_r60, ai_r61, ai_r62, ai_r63, ai_r64, ai_r65, ai_r66, ai_r67, ai_r68, ai_r69, ai_r70, ai_r71, ai_r72, ai_r73, ai_r74, ai_r75, ai_r76, ai_r77, ai_r78, ai_r79, ai_r80, ai_r81, ai_r82, ai_r83, ai_r84, ai_r85, ai_r86, ai_r87, ai_r88, ai_r89, ai_r90, ai_r91, ai_r92, ai_r93, ai_r94, ai_r95, ai_r96, ai_r97, ai_r98, ai_r99, ai_r100, ai_r101, ai_r102, ai_r103, ai_r104, ai_r105, ai_r106, ai_r107, ai_r108, ai_r109, ai_r110, ai_r111, ai_r112, ai_r113, ai_r114, ai_r115, ai_r116, ai_r117, ai_r118, ai_r119, ai_r120, ai_r121, ai_r122, ai_r123, ai_r124, ai_r125, ai_r126, ai_r127, ai_r128, ai_r129, ai_r130, ai_r131, ai_r132, ai_r133, ai_r134, ai_r135, ai_r136, ai_r137, ai_r138, ai_r139, ai_r140, ai_r141, ai_r142, ai_r143]
def ai_cn (o : Nat) : String := match o with
  | 0 => RX0
  | 1 => RX1
  | 2 => RX2
  | 3 => RX3
  | 4 => RX4
  | 5 => RX5
  | 6 => RX6
  | _ => "DeadCodeLaw"
def ai_LF : List (Nat × Nat × Nat × Nat) := [(0, 9, 0, 0), (0, 15, 0, 1), (1, 9, 1, 0), (1, 15, 1, 1), (1, 19, 1, 2), (2, 9, 2, 0), (2, 15, 2, 1), (2, 18, 2, 2), (2, 21, 2, 3), (2, 24, 2, 4), (2, 27, 2, 8), (2, 31, 2, 6), (2, 34, 2, 7), (2, 37, 2, 5), (2, 43, 2, 9), (3, 9, 3, 0), (4, 9, 4, 0), (4, 15, 4, 1), (4, 18, 4, 2), (5, 11, 5, 0), (5, 15, 5, 1), (5, 18, 5, 2), (5, 25, 5, 3), (5, 32, 5, 4), (5, 39, 5, 5), (5, 46, 5, 6), (5, 92, 5, 7), (6, 7, 6, 0), (6, 13, 6, 1), (6, 16, 6, 2), (6, 19, 6, 3), (6, 22, 6, 4), (6, 25, 6, 5), (6, 29, 6, 9), (6, 32, 6, 10), (6, 36, 6, 12), (6, 39, 6, 13), (6, 42, 6, 14), (6, 45, 6, 16), (6, 48, 6, 17), (6, 51, 6, 18), (6, 54, 6, 19), (6, 57, 6, 25), (6, 60, 6, 26), (6, 63, 6, 27), (6, 66, 6, 28), (6, 99, 6, 7), (6, 105, 6, 11), (6, 109, 6, 8), (6, 161, 6, 15), (6, 182, 6, 6), (6, 188, 6, 23), (6, 191, 6, 22), (6, 194, 6, 24), (6, 204, 6, 20), (6, 207, 6, 21)]
def ai_LFN : List (Nat × Nat × Nat × Nat) := [(1, 62, 0, 0)]
def ai_LC : List (Nat × Nat × Nat × Nat) := [(0, 19, 0, 6), (0, 23, 4, 90), (0, 27, 0, 8), (0, 37, 0, 4), (0, 40, 0, 14), (0, 44, 0, 13), (1, 22, 0, 17), (1, 28, 0, 16), (1, 32, 0, 4), (1, 38, 0, 23), (1, 42, 0, 21), (1, 46, 0, 20), (1, 49, 0, 22), (1, 52, 0, 18), (1, 56, 0, 24), (1, 65, 0, 27), (1, 68, 0, 1), (1, 72, 0, 26), (1, 75, 0, 28), (1, 79, 0, 30), (1, 82, 0, 31), (1, 85, 0, 2), (1, 94, 1, 29), (1, 98, 4, 93), (1, 102, 0, 33), (1, 105, 0, 34), (1, 108, 0, 10), (1, 112, 0, 11), (2, 40, 0, 41), (2, 46, 0, 43), (2, 50, 0, 44), (2, 54, 0, 2), (2, 60, 0, 45), (2, 64, 0, 46), (2, 68, 0, 4), (2, 72, 0, 51), (2, 76, 0, 53), (2, 79, 0, 52), (2, 82, 0, 50), (2, 86, 4, 93), (2, 90, 0, 47), (2, 93, 0, 48), (2, 97, 0, 49), (3, 15, 0, 25), (3, 21, 0, 32), (3, 24, 0, 56), (3, 28, 0, 58), (3, 32, 0, 2), (3, 38, 0, 19), (3, 42, 1, 57), (3, 45, 0, 1), (3, 49, 0, 59), (3, 53, 0, 8), (3, 57, 0, 4), (3, 61, 0, 6), (4, 22, 0, 64), (4, 26, 0, 25), (4, 32, 0, 65), (4, 36, 0, 1), (4, 41, 0, 16), (4, 45, 0, 4), (4, 49, 0, 66), (5, 24, 5, 15), (5, 31, 5, 60), (5, 38, 5, 54), (5, 45, 5, 35), (5, 50, 5, 0), (5, 51, 1, 87), (5, 55, 1, 91), (5, 59, 1, 92), (5, 62, 0, 3), (5, 66, 0, 5), (5, 70, 0, 7), (5, 74, 0, 63), (5, 78, 0, 61), (5, 81, 0, 9), (5, 85, 0, 55), (5, 89, 0, 1), (5, 96, 0, 84), (5, 100, 0, 85), (5, 104, 0, 42), (5, 108, 0, 36), (5, 111, 0, 37), (5, 114, 0, 38), (5, 117, 0, 39), (5, 123, 0, 40), (5, 126, 0, 86), (5, 130, 0, 25), (5, 133, 0, 32), (5, 136, 0, 19), (5, 140, 1, 88), (5, 145, 0, 17), (5, 149, 0, 18), (5, 152, 1, 89), (5, 155, 0, 62), (5, 158, 0, 12), (5, 162, 0, 2), (5, 165, 0, 4), (5, 168, 0, 41), (5, 175, 1, 90), (6, 69, 1, 95), (6, 73, 1, 99), (6, 77, 1, 96), (6, 81, 1, 97), (6, 84, 1, 100), (6, 88, 1, 101), (6, 92, 1, 102), (6, 95, 1, 98), (6, 112, 0, 108), (6, 115, 0, 110), (6, 118, 0, 111), (6, 121, 0, 106), (6, 125, 0, 109), (6, 128, 1, 107), (6, 132, 0, 112), (6, 135, 0, 113), (6, 139, 0, 115), (6, 142, 0, 114), (6, 145, 0, 117), (6, 148, 0, 119), (6, 151, 0, 116), (6, 154, 0, 118), (6, 164, 0, 123), (6, 167, 0, 126), (6, 170, 0, 127), (6, 173, 1, 128), (6, 176, 0, 129), (6, 179, 0, 131), (6, 185, 0, 132), (6, 197, 0, 134), (6, 201, 0, 135), (6, 210, 0, 136), (7, 9, 2, 67), (7, 12, 2, 94), (7, 13, 0, 68), (7, 17, 0, 103), (7, 18, 0, 69), (7, 22, 0, 104), (7, 23, 0, 70), (7, 27, 0, 105), (7, 28, 0, 71), (7, 32, 0, 133), (7, 33, 0, 72), (7, 37, 0, 137), (7, 38, 0, 73), (7, 42, 0, 138), (7, 43, 0, 74), (7, 46, 0, 139), (7, 47, 0, 75), (7, 51, 0, 120), (7, 52, 0, 76), (7, 56, 0, 121), (7, 57, 0, 77), (7, 61, 0, 122), (7, 62, 0, 78), (7, 65, 0, 124), (7, 66, 0, 79), (7, 69, 0, 125), (7, 70, 0, 80), (7, 73, 0, 130), (7, 74, 0, 81), (7, 77, 0, 140), (7, 78, 0, 82), (7, 82, 0, 141), (7, 83, 0, 83), (7, 86, 0, 142)]
def ai_LN : List (Nat × Nat × Nat) := [(5, 9, 0), (5, 22, 1), (5, 29, 4), (5, 36, 3), (5, 43, 2), (7, 7, 5), (7, 10, 6)]
def ai_LK : List (Nat × Nat × Nat) := [(1, 26, 2000000000000), (1, 60, 1000000000000), (5, 121, 18446744073709551514), (5, 143, 18446744073709551515), (6, 103, 1000000000000), (6, 157, 18446744073709551515), (6, 159, 2000000000000), (6, 213, 18446744073709551514), (6, 215, 18446744073709551513)]
def ai_PC : List (Nat × Nat × Nat × Nat) := [(227, 228, 229, 62), (231, 206, 0, 57), (240, 241, 242, 62), (364, 298, 299, 62), (549, 551, 32, 62), (553, 555, 33, 62), (282, 283, 284, 58), (278, 279, 280, 58), (297, 298, 299, 62), (315, 317, 6, 58), (378, 380, 13, 58), (382, 384, 14, 58), (390, 392, 15, 58), (386, 387, 388, 58), (301, 303, 4, 58), (266, 268, 1, 58), (274, 275, 276, 62), (286, 288, 2, 58), (290, 292, 3, 58), (311, 313, 5, 58), (319, 321, 7, 58), (270, 271, 272, 62), (305, 306, 0, 58), (308, 309, 0, 57), (352, 354, 10, 58), (356, 358, 11, 58), (360, 361, 362, 62), (365, 366, 367, 62), (426, 427, 428, 61), (430, 432, 20, 61), (434, 436, 21, 61), (438, 271, 272, 62), (439, 441, 22, 61), (452, 454, 25, 61), (443, 298, 299, 62), (444, 446, 23, 61), (448, 450, 24, 61), (456, 458, 26, 61), (460, 462, 27, 61), (464, 309, 0, 57), (465, 467, 28, 61), (469, 471, 29, 61), (473, 475, 30, 61), (347, 261, 262, 58), (348, 349, 350, 58), (369, 371, 12, 60), (397, 399, 16, 60), (373, 271, 272, 62), (374, 375, 376, 58), (394, 395, 0, 60), (401, 275, 276, 62), (402, 404, 17, 60), (408, 241, 242, 62), (406, 298, 299, 62), (407, 228, 229, 62), (256, 258, 0, 59), (260, 261, 262, 58), (323, 325, 8, 59), (327, 275, 276, 62), (328, 279, 280, 58), (329, 298, 299, 62), (330, 332, 9, 59), (77, 78, 0, 58), (96, 97, 0, 59), (112, 113, 0, 60), (122, 123, 0, 61), (158, 159, 0, 62), (199, 200, 0, 57), (202, 203, 0, 57), (216, 217, 0, 57), (219, 220, 221, 62), (223, 224, 225, 62), (236, 237, 238, 62), (252, 253, 254, 59), (334, 335, 336, 59), (338, 339, 340, 62), (343, 344, 345, 60), (409, 275, 276, 62), (414, 416, 18, 57), (418, 420, 19, 57), (422, 423, 424, 61), (481, 482, 483, 61), (485, 486, 487, 61), (489, 490, 491, 61), (493, 494, 495, 61), (502, 503, 504, 61), (510, 512, 31, 57), (515, 261, 262, 58), (516, 349, 350, 58), (517, 375, 376, 58), (210, 211, 0, 57), (523, 283, 284, 58), (528, 387, 388, 58), (213, 214, 0, 57), (537, 538, 539, 59), (545, 546, 547, 62), (514, 271, 272, 62), (565, 298, 299, 62), (570, 427, 428, 61), (205, 206, 0, 57), (672, 673, 0, 63), (678, 679, 0, 63), (669, 670, 0, 63), (684, 685, 0, 63), (675, 676, 0, 63), (681, 682, 0, 63), (687, 688, 0, 63), (690, 691, 0, 63), (730, 732, 40, 63), (726, 728, 39, 63), (734, 736, 41, 63), (718, 720, 37, 63), (738, 740, 42, 63), (742, 743, 0, 63), (722, 724, 38, 63), (713, 715, 36, 63), (745, 747, 43, 63), (749, 751, 44, 63), (757, 759, 46, 63), (705, 707, 34, 63), (709, 711, 35, 63), (753, 755, 45, 63), (775, 777, 47, 63), (795, 797, 50, 63), (791, 793, 49, 63), (799, 800, 0, 63), (787, 789, 48, 63), (810, 812, 52, 63), (806, 808, 51, 63), (818, 820, 53, 63), (822, 824, 54, 63), (826, 828, 55, 63), (67, 68, 0, 57), (573, 574, 0, 63), (195, 196, 197, 57), (665, 666, 667, 63), (232, 233, 234, 57), (693, 694, 695, 63), (244, 245, 246, 57), (697, 698, 699, 63), (248, 249, 250, 57), (802, 803, 804, 63), (410, 411, 412, 57), (814, 815, 816, 63), (477, 478, 479, 57), (830, 831, 832, 63), (498, 499, 500, 57), (835, 836, 837, 63), (506, 507, 508, 57), (701, 702, 703, 63), (518, 519, 520, 57), (761, 762, 763, 63), (524, 525, 526, 57), (767, 768, 769, 63), (529, 530, 531, 57), (771, 772, 773, 63), (533, 534, 535, 57), (779, 780, 781, 63), (541, 542, 543, 57), (783, 784, 785, 63), (557, 558, 559, 57), (839, 840, 841, 63), (561, 562, 563, 57), (843, 844, 845, 63), (566, 567, 568, 57), (848, 849, 850, 63)]
def ai_law : Nat := 143
def ai_fts : List (List FieldType) := [[.array .int, .int],
  [.array .long, .array .int, .array .long],
  [.array .int, .array .int, .array .int, .array .int, .array .int, .int, .int, .int, .int, .int],
  [.array .int],
  [.array .boolean, .array .boolean, .array .int],
  [.array (.object "DeadCode$Code"), .array (.object "DeadCode$Code"), .array .boolean, .object "DeadCode$Facts", .object "DeadCode$Usage", .object "DeadCode$Shrinker", .object "DeadCode$Runner", .boolean],
  [.array .int, .array .int, .array .int, .array .int, .array .int, .array .boolean, .boolean, .int, .int, .array .boolean, .array .long, .boolean, .array .long, .array .int, .array .int, .int, .array .boolean, .array .boolean, .array .int, .array .int, .int, .int, .int, .int, .int, .array .int, .array .int, .array .int, .array .int]]
def ai_dfs : List (List Value) := [[.null, .int 0],
  [.null, .null, .null],
  [.null, .null, .null, .null, .null, .int 0, .int 0, .int 0, .int 0, .int 0],
  [.null],
  [.null, .null, .null],
  [.null, .null, .null, .null, .null, .null, .null, .int 0],
  [.null, .null, .null, .null, .null, .null, .int 0, .int 0, .int 0, .null, .null, .int 0, .null, .null, .null, .int 0, .null, .null, .null, .null, .int 0, .int 0, .int 0, .int 0, .int 0, .null, .null, .null, .null]]
end
section
def ai_len (i : ClassFile.Instr) : Nat := match i with
  | .bipush _ | .iload _ | .lload _ | .aload _ | .istore _ | .lstore _ | .astore _ | .newarray _ => 2
  | .sipush _ | .ifCond _ _ | .if_icmp _ _ | .goto _ | .iinc _ _ | .getfield _ | .putfield _ | .getstatic _ | .invokevirtual _ | .invokespecial _ | .invokestatic _ | .new _ | .anewarray _ | .ldc2_w _ => 3
  | .tableswitch _ _ _ _ | .lookupswitch _ _ => 0
  | _ => 1
def ai_dec (c : ByteArray) (pc : Nat) (i : ClassFile.Instr) : Bool := match decode c pc with
  | .ok (j, n) => decide (j = i) && (Nat.beq n (ai_len i) || Nat.beq (ai_len i) 0)
  | .error _ => false
/-- is field b of class a final? -/
def ai_fin (a b : Nat) : Bool := match vwCl[a]? with
  | some (_, T, _) => (T b).2.2.2
  | none => true
def ai_lnk (o : Nat) (y : MethodName) (i : ClassFile.Instr) (a b : Nat) : Bool := match i with
  | .getfield x => decide ((o, x, a, b) ∈ ai_LF) || decide ((o, x, a, b) ∈ ai_LFN)
  | .putfield x => decide ((o, x, a, b) ∈ ai_LF) && (!(ai_fin a b) || (decide (y.name = "<init>") && Nat.beq o a))
  | .getstatic x => Nat.beq o 5 && Nat.beq x 171 && Nat.beq a 1
  | .invokevirtual x => Nat.beq a 0 && decide ((o, x, a, b) ∈ ai_LC)
  | .invokespecial x => (Nat.beq a 9 && decide (Cond.methodLink (ai_cn o) x objectInit ∈ lw_tbl)) || ((Nat.beq a 2 || Nat.beq a 5) && decide ((o, x, a, b) ∈ ai_LC))
  | .invokestatic x => (Nat.beq a 8 && decide (Cond.methodLink (ai_cn o) x arraycopyName ∈ lw_tbl)) || ((Nat.beq a 1 || Nat.beq a 4) && decide ((o, x, a, b) ∈ ai_LC))
  | .new x => decide ((o, x, a) ∈ ai_LN)
  | .anewarray x => Nat.beq a 0 && decide ((o, x, a) ∈ ai_LN)
  | .ldc2_w x => decide ((o, x, a) ∈ ai_LK)
  | _ => true
def ai_ch1 (r : ai_R) (j : Nat) : Nat → List (Option ai_N) → Bool
  | _, [] => true
  | t, none :: l => ai_ch1 r j (t + 1) l
  | t, some (i, a, b, _) :: l => ai_dec r.2.2.1 (16 * j + t) i && ai_lnk r.1 r.2.1 i a b && ai_ch1 r j (t + 1) l
def ai_ch (r : ai_R) : Nat → List (List (Option ai_N)) → Bool
  | _, [] => true
  | j, ch :: l => ai_ch1 r j 0 ch && ai_ch r (j + 1) l
def ai_chk (r : ai_R) : Bool := ai_ch r 0 r.2.2.2.2.2.2
theorem ai_ch_cons {r : ai_R} {j : Nat} {ch : List (Option ai_N)} {l : List (List (Option ai_N))} (h1 : ai_ch1 r j 0 ch = true) (h2 : ai_ch r (j + 1) l = true) : ai_ch r j (ch :: l) = true := Bool.and_eq_true_iff.mpr ⟨h1, h2⟩
def ai_okF (q : Nat × Nat × Nat × Nat) : Bool := match vwCl[q.2.2.1]? with
  | some (_, T, N) => decide (q.2.2.2 < N) && decide (Cond.fieldLink (ai_cn q.1) q.2.1 (T q.2.2.2).1 (T q.2.2.2).2.1 (T q.2.2.2).2.2.1 ∈ lw_tbl)
  | none => false
def ai_okFN (q : Nat × Nat × Nat × Nat) : Bool := match vwCl[q.2.2.1]? with
  | some (_, T, N) => decide (q.2.2.2 < N) && decide (Cond.fieldLinkNest (ai_cn q.1) q.2.1 (T q.2.2.2).1 (T q.2.2.2).2.1 (T q.2.2.2).2.2.1 "DeadCode" ∈ lw_tbl)
  | none => false
def ai_is (p : Nat) (w : Cond) : Bool := decide (lw_tbl[p]? = some w)
def ai_okC (z : (Nat × Nat × Nat × Nat) × (Nat × Nat × Nat × Nat)) : Bool := match z with
  | (q, p) => match ai_ms[q.2.2.2]? with
  | some (o, y, _, _, ret, na, _) => ai_is p.2.2.2 (Cond.initialized y.cls) && (match q.2.2.1 with
    | 0 => ai_is p.1 (Cond.methodLink (ai_cn q.1) q.2.1 y) && ai_is p.2.1 (Cond.instanceMethod y) && ai_is p.2.2.1 (Cond.selects y.cls y y) && decide ((parseMethodDescriptor y.desc).map (fun d => d.parameters.length) = some (na - 1)) && Nat.blt 0 na && decide ((vwCl[o]?).map (fun z => z.1) = some y.cls)
    | 1 => ai_is p.1 (Cond.methodLink (ai_cn q.1) q.2.1 y) && ai_is p.2.1 (Cond.static y) && decide ((parseMethodDescriptor y.desc).map (fun d => d.parameters.length) = some na)
    | 2 => ai_is p.1 (Cond.methodLink (ai_cn q.1) q.2.1 y) && ai_is p.2.1 (Cond.instanceMethod y) && decide ((parseMethodDescriptor y.desc).map (fun d => d.parameters.length) = some (na - 1)) && Nat.blt 0 na && decide (y.name = "<init>") && decide (ret = none)
    | 4 => ai_is p.1 (Cond.methodLinkNest (ai_cn q.1) q.2.1 y "DeadCode") && ai_is p.2.1 (Cond.static y) && decide ((parseMethodDescriptor y.desc).map (fun d => d.parameters.length) = some na)
    | 5 => ai_is p.1 (Cond.methodLinkNest (ai_cn q.1) q.2.1 y "DeadCode") && ai_is p.2.1 (Cond.instanceMethod y) && decide ((parseMethodDescriptor y.desc).map (fun d => d.parameters.length) = some (na - 1)) && Nat.blt 0 na && decide (y.name = "<init>") && decide (ret = none)
    | _ => false)
  | none => false
def ai_okN (q : Nat × Nat × Nat) : Bool := match vwCl[q.2.2]? with
  | some (C, _, N) => decide (Cond.classLink (ai_cn q.1) q.2.1 C ∈ lw_tbl) && decide (Cond.instantiable C N ∈ lw_tbl) && decide (Cond.initialized C ∈ lw_tbl)
  | none => false
def ai_okK (q : Nat × Nat × Nat) : Bool := decide (Cond.constantLong (ai_cn q.1) q.2.1 (Int64.ofNat q.2.2) ∈ lw_tbl)
/-- a method's own word, but for its code's -/
def ai_okM (r : ai_R) : Bool := plainName r.2.1.cls && decide (r.2.1.cls ≠ "java/lang/invoke/MethodHandle") && decide (r.2.1.cls ≠ "java/lang/invoke/VarHandle") && decide (r.2.1.cls = ai_cn r.1)
set_option maxRecDepth 100000 in
theorem ai_wF : ai_LF.all ai_okF = true := by decide +kernel
set_option maxRecDepth 100000 in
theorem ai_wFN : ai_LFN.all ai_okFN = true := by decide +kernel
set_option maxRecDepth 100000 in
theorem ai_wC : (ai_LC.zip ai_PC).all ai_okC = true := by decide +kernel
theorem ai_wCl : ai_LC.length = ai_PC.length := by decide +kernel
set_option maxRecDepth 100000 in
theorem ai_wN : ai_LN.all ai_okN = true := by decide +kernel
set_option maxRecDepth 100000 in
theorem ai_wK : ai_LK.all ai_okK = true := by decide +kernel
set_option maxRecDepth 100000 in
theorem ai_wM : ai_ms.all ai_okM = true := by decide +kernel
end
section
set_option maxRecDepth 100000 in
theorem ai_k0 : ai_chk ai_r0 = true := by decide +kernel
set_option maxRecDepth 100000 in
theorem ai_k1 : ai_chk ai_r1 = true := by decide +kernel
set_option maxRecDepth 100000 in
theorem ai_k2 : ai_chk ai_r2 = true := by decide +kernel
set_option maxRecDepth 100000 in
theorem ai_k3 : ai_chk ai_r3 = true := by decide +kernel
set_option maxRecDepth 100000 in
theorem ai_k4 : ai_chk ai_r4 = true := by decide +kernel
set_option maxRecDepth 100000 in
theorem ai_k5 : ai_chk ai_r5 = true := by decide +kernel
set_option maxRecDepth 100000 in
theorem ai_k6 : ai_chk ai_r6 = true := by decide +kernel
set_option maxRecDepth 100000 in
theorem ai_k7 : ai_chk ai_r7 = true := by decide +kernel
set_option maxRecDepth 100000 in
theorem ai_k8 : ai_chk ai_r8 = true := by decide +kernel
set_option maxRecDepth 100000 in
theorem ai_k9 : ai_chk ai_r9 = true := by decide +kernel
set_option maxRecDepth 100000 in
theorem ai_k10 : ai_chk ai_r10 = true := by decide +kernel
set_option maxRecDepth 100000 in
theorem ai_k11 : ai_chk ai_r11 = true := by decide +kernel
set_option maxRecDepth 100000 in
theorem ai_k12 : ai_chk ai_r12 = true := by decide +kernel
set_option maxRecDepth 100000 in
theorem ai_k13 : ai_chk ai_r13 = true := by decide +kernel
set_option maxRecDepth 100000 in
theorem ai_k14 : ai_chk ai_r14 = true := by decide +kernel
set_option maxRecDepth 100000 in
theorem ai_k15 : ai_chk ai_r15 = true := by decide +kernel
set_option maxRecDepth 100000 in
theorem ai_k16 : ai_chk ai_r16 = true := by decide +kernel
set_option maxRecDepth 100000 in
theorem ai_k17 : ai_chk ai_r17 = true := by decide +kernel
set_option maxRecDepth 100000 in
theorem ai_k18 : ai_chk ai_r18 = true := by decide +kernel
set_option maxRecDepth 100000 in
theorem ai_k19 : ai_chk ai_r19 = true := by decide +kernel
set_option maxRecDepth 100000 in
theorem ai_k20 : ai_chk ai_r20 = true := by decide +kernel
set_option maxRecDepth 100000 in
theorem ai_k21 : ai_chk ai_r21 = true := by decide +kernel
set_option maxRecDepth 100000 in
theorem ai_k22 : ai_chk ai_r22 = true := by decide +kernel
set_option maxRecDepth 100000 in
theorem ai_k23 : ai_chk ai_r23 = true := by decide +kernel
set_option maxRecDepth 100000 in
theorem ai_k24 : ai_chk ai_r24 = true := by decide +kernel
set_option maxRecDepth 100000 in
theorem ai_k25_0 : ai_ch1 ai_r25 0 0 (ai_d25.getD 0 []) = true := by decide +kernel
set_option maxRecDepth 100000 in
theorem ai_k25_1 : ai_ch1 ai_r25 1 0 (ai_d25.getD 1 []) = true := by decide +kernel
set_option maxRecDepth 100000 in
theorem ai_k25_2 : ai_ch1 ai_r25 2 0 (ai_d25.getD 2 []) = true := by decide +kernel
set_option maxRecDepth 100000 in
theorem ai_k25_3 : ai_ch1 ai_r25 3 0 (ai_d25.getD 3 []) = true := by decide +kernel
set_option maxRecDepth 100000 in
theorem ai_k25_4 : ai_ch1 ai_r25 4 0 (ai_d25.getD 4 []) = true := by decide +kernel
set_option maxRecDepth 100000 in
theorem ai_k25_5 : ai_ch1 ai_r25 5 0 (ai_d25.getD 5 []) = true := by decide +kernel
set_option maxRecDepth 100000 in
theorem ai_k25_6 : ai_ch1 ai_r25 6 0 (ai_d25.getD 6 []) = true := by decide +kernel
set_option maxRecDepth 100000 in
theorem ai_k25_7 : ai_ch1 ai_r25 7 0 (ai_d25.getD 7 []) = true := by decide +kernel
set_option maxRecDepth 100000 in
theorem ai_k25 : ai_chk ai_r25 = true := (ai_ch_cons ai_k25_0 (ai_ch_cons ai_k25_1 (ai_ch_cons ai_k25_2 (ai_ch_cons ai_k25_3 (ai_ch_cons ai_k25_4 (ai_ch_cons ai_k25_5 (ai_ch_cons ai_k25_6 (ai_ch_cons ai_k25_7 (rfl)))))))) : ai_ch ai_r25 0 ai_d25 = true)
set_option maxRecDepth 100000 in
theorem ai_k26 : ai_chk ai_r26 = true := by decide +kernel
set_option maxRecDepth 100000 in
theorem ai_k27_0 : ai_ch1 ai_r27 0 0 (ai_d27.getD 0 []) = true := by decide +kernel
set_option maxRecDepth 100000 in
theorem ai_k27_1 : ai_ch1 ai_r27 1 0 (ai_d27.getD 1 []) = true := by decide +kernel
set_option maxRecDepth 100000 in
theorem ai_k27_2 : ai_ch1 ai_r27 2 0 (ai_d27.getD 2 []) = true := by decide +kernel
set_option maxRecDepth 100000 in
theorem ai_k27_3 : ai_ch1 ai_r27 3 0 (ai_d27.getD 3 []) = true := by decide +kernel
set_option maxRecDepth 100000 in
theorem ai_k27_4 : ai_ch1 ai_r27 4 0 (ai_d27.getD 4 []) = true := by decide +kernel
set_option maxRecDepth 100000 in
theorem ai_k27_5 : ai_ch1 ai_r27 5 0 (ai_d27.getD 5 []) = true := by decide +kernel
set_option maxRecDepth 100000 in
theorem ai_k27_6 : ai_ch1 ai_r27 6 0 (ai_d27.getD 6 []) = true := by decide +kernel
set_option maxRecDepth 100000 in
theorem ai_k27_7 : ai_ch1 ai_r27 7 0 (ai_d27.getD 7 []) = true := by decide +kernel
set_option maxRecDepth 100000 in
theorem ai_k27 : ai_chk ai_r27 = true := (ai_ch_cons ai_k27_0 (ai_ch_cons ai_k27_1 (ai_ch_cons ai_k27_2 (ai_ch_cons ai_k27_3 (ai_ch_cons ai_k27_4 (ai_ch_cons ai_k27_5 (ai_ch_cons ai_k27_6 (ai_ch_cons ai_k27_7 (rfl)))))))) : ai_ch ai_r27 0 ai_d27 = true)
set_option maxRecDepth 100000 in
theorem ai_k28_0 : ai_ch1 ai_r28 0 0 (ai_d28.getD 0 []) = true := by decide +kernel
set_option maxRecDepth 100000 in
theorem ai_k28_1 : ai_ch1 ai_r28 1 0 (ai_d28.getD 1 []) = true := by decide +kernel
set_option maxRecDepth 100000 in
theorem ai_k28_2 : ai_ch1 ai_r28 2 0 (ai_d28.getD 2 []) = true := by decide +kernel
set_option maxRecDepth 100000 in
theorem ai_k28_3 : ai_ch1 ai_r28 3 0 (ai_d28.getD 3 []) = true := by decide +kernel
set_option maxRecDepth 100000 in
theorem ai_k28_4 : ai_ch1 ai_r28 4 0 (ai_d28.getD 4 []) = true := by decide +kernel
set_option maxRecDepth 100000 in
theorem ai_k28_5 : ai_ch1 ai_r28 5 0 (ai_d28.getD 5 []) = true := by decide +kernel
set_option maxRecDepth 100000 in
theorem ai_k28_6 : ai_ch1 ai_r28 6 0 (ai_d28.getD 6 []) = true := by decide +kernel
set_option maxRecDepth 100000 in
theorem ai_k28_7 : ai_ch1 ai_r28 7 0 (ai_d28.getD 7 []) = true := by decide +kernel
set_option maxRecDepth 100000 in
theorem ai_k28_8 : ai_ch1 ai_r28 8 0 (ai_d28.getD 8 []) = true := by decide +kernel
set_option maxRecDepth 100000 in
theorem ai_k28_9 : ai_ch1 ai_r28 9 0 (ai_d28.getD 9 []) = true := by decide +kernel
set_option maxRecDepth 100000 in
theorem ai_k28_10 : ai_ch1 ai_r28 10 0 (ai_d28.getD 10 []) = true := by decide +kernel
set_option maxRecDepth 100000 in
theorem ai_k28 : ai_chk ai_r28 = true := (ai_ch_cons ai_k28_0 (ai_ch_cons ai_k28_1 (ai_ch_cons ai_k28_2 (ai_ch_cons ai_k28_3 (ai_ch_cons ai_k28_4 (ai_ch_cons ai_k28_5 (ai_ch_cons ai_k28_6 (ai_ch_cons ai_k28_7 (ai_ch_cons ai_k28_8 (ai_ch_cons ai_k28_9 (ai_ch_cons ai_k28_10 (rfl))))))))))) : ai_ch ai_r28 0 ai_d28 = true)
set_option maxRecDepth 100000 in
theorem ai_k29 : ai_chk ai_r29 = true := by decide +kernel
set_option maxRecDepth 100000 in
theorem ai_k30 : ai_chk ai_r30 = true := by decide +kernel
set_option maxRecDepth 100000 in
theorem ai_k31 : ai_chk ai_r31 = true := by decide +kernel
set_option maxRecDepth 100000 in
theorem ai_k32_0 : ai_ch1 ai_r32 0 0 (ai_d32.getD 0 []) = true := by decide +kernel
set_option maxRecDepth 100000 in
theorem ai_k32_1 : ai_ch1 ai_r32 1 0 (ai_d32.getD 1 []) = true := by decide +kernel
set_option maxRecDepth 100000 in
theorem ai_k32_2 : ai_ch1 ai_r32 2 0 (ai_d32.getD 2 []) = true := by decide +kernel
set_option maxRecDepth 100000 in
theorem ai_k32_3 : ai_ch1 ai_r32 3 0 (ai_d32.getD 3 []) = true := by decide +kernel
set_option maxRecDepth 100000 in
theorem ai_k32_4 : ai_ch1 ai_r32 4 0 (ai_d32.getD 4 []) = true := by decide +kernel
set_option maxRecDepth 100000 in
theorem ai_k32_5 : ai_ch1 ai_r32 5 0 (ai_d32.getD 5 []) = true := by decide +kernel
set_option maxRecDepth 100000 in
theorem ai_k32_6 : ai_ch1 ai_r32 6 0 (ai_d32.getD 6 []) = true := by decide +kernel
set_option maxRecDepth 100000 in
theorem ai_k32_7 : ai_ch1 ai_r32 7 0 (ai_d32.getD 7 []) = true := by decide +kernel
set_option maxRecDepth 100000 in
theorem ai_k32 : ai_chk ai_r32 = true := (ai_ch_cons ai_k32_0 (ai_ch_cons ai_k32_1 (ai_ch_cons ai_k32_2 (ai_ch_cons ai_k32_3 (ai_ch_cons ai_k32_4 (ai_ch_cons ai_k32_5 (ai_ch_cons ai_k32_6 (ai_ch_cons ai_k32_7 (rfl)))))))) : ai_ch ai_r32 0 ai_d32 = true)
set_option maxRecDepth 100000 in
theorem ai_k33 : ai_chk ai_r33 = true := by decide +kernel
set_option maxRecDepth 100000 in
theorem ai_k34 : ai_chk ai_r34 = true := by decide +kernel
set_option maxRecDepth 100000 in
theorem ai_k35 : ai_chk ai_r35 = true := by decide +kernel
set_option maxRecDepth 100000 in
theorem ai_k36 : ai_chk ai_r36 = true := by decide +kernel
set_option maxRecDepth 100000 in
theorem ai_k37 : ai_chk ai_r37 = true := by decide +kernel
set_option maxRecDepth 100000 in
theorem ai_k38 : ai_chk ai_r38 = true := by decide +kernel
set_option maxRecDepth 100000 in
theorem ai_k39 : ai_chk ai_r39 = true := by decide +kernel
set_option maxRecDepth 100000 in
theorem ai_k40 : ai_chk ai_r40 = true := by decide +kernel
set_option maxRecDepth 100000 in
theorem ai_k41 : ai_chk ai_r41 = true := by decide +kernel
set_option maxRecDepth 100000 in
theorem ai_k42 : ai_chk ai_r42 = true := by decide +kernel
set_option maxRecDepth 100000 in
theorem ai_k43 : ai_chk ai_r43 = true := by decide +kernel
set_option maxRecDepth 100000 in
theorem ai_k44 : ai_chk ai_r44 = true := by decide +kernel
set_option maxRecDepth 100000 in
theorem ai_k45 : ai_chk ai_r45 = true := by decide +kernel
set_option maxRecDepth 100000 in
theorem ai_k46_0 : ai_ch1 ai_r46 0 0 (ai_d46.getD 0 []) = true := by decide +kernel
set_option maxRecDepth 100000 in
theorem ai_k46_1 : ai_ch1 ai_r46 1 0 (ai_d46.getD 1 []) = true := by decide +kernel
set_option maxRecDepth 100000 in
theorem ai_k46_2 : ai_ch1 ai_r46 2 0 (ai_d46.getD 2 []) = true := by decide +kernel
set_option maxRecDepth 100000 in
theorem ai_k46_3 : ai_ch1 ai_r46 3 0 (ai_d46.getD 3 []) = true := by decide +kernel
set_option maxRecDepth 100000 in
theorem ai_k46_4 : ai_ch1 ai_r46 4 0 (ai_d46.getD 4 []) = true := by decide +kernel
set_option maxRecDepth 100000 in
theorem ai_k46_5 : ai_ch1 ai_r46 5 0 (ai_d46.getD 5 []) = true := by decide +kernel
set_option maxRecDepth 100000 in
theorem ai_k46_6 : ai_ch1 ai_r46 6 0 (ai_d46.getD 6 []) = true := by decide +kernel
set_option maxRecDepth 100000 in
theorem ai_k46_7 : ai_ch1 ai_r46 7 0 (ai_d46.getD 7 []) = true := by decide +kernel
set_option maxRecDepth 100000 in
theorem ai_k46_8 : ai_ch1 ai_r46 8 0 (ai_d46.getD 8 []) = true := by decide +kernel
set_option maxRecDepth 100000 in
theorem ai_k46_9 : ai_ch1 ai_r46 9 0 (ai_d46.getD 9 []) = true := by decide +kernel
set_option maxRecDepth 100000 in
theorem ai_k46_10 : ai_ch1 ai_r46 10 0 (ai_d46.getD 10 []) = true := by decide +kernel
set_option maxRecDepth 100000 in
theorem ai_k46_11 : ai_ch1 ai_r46 11 0 (ai_d46.getD 11 []) = true := by decide +kernel
set_option maxRecDepth 100000 in
theorem ai_k46_12 : ai_ch1 ai_r46 12 0 (ai_d46.getD 12 []) = true := by decide +kernel
set_option maxRecDepth 100000 in
theorem ai_k46_13 : ai_ch1 ai_r46 13 0 (ai_d46.getD 13 []) = true := by decide +kernel
set_option maxRecDepth 100000 in
theorem ai_k46_14 : ai_ch1 ai_r46 14 0 (ai_d46.getD 14 []) = true := by decide +kernel
set_option maxRecDepth 100000 in
theorem ai_k46_15 : ai_ch1 ai_r46 15 0 (ai_d46.getD 15 []) = true := by decide +kernel
set_option maxRecDepth 100000 in
theorem ai_k46_16 : ai_ch1 ai_r46 16 0 (ai_d46.getD 16 []) = true := by decide +kernel
set_option maxRecDepth 100000 in
theorem ai_k46_17 : ai_ch1 ai_r46 17 0 (ai_d46.getD 17 []) = true := by decide +kernel
set_option maxRecDepth 100000 in
theorem ai_k46_18 : ai_ch1 ai_r46 18 0 (ai_d46.getD 18 []) = true := by decide +kernel
set_option maxRecDepth 100000 in
theorem ai_k46_19 : ai_ch1 ai_r46 19 0 (ai_d46.getD 19 []) = true := by decide +kernel
set_option maxRecDepth 100000 in
theorem ai_k46 : ai_chk ai_r46 = true := (ai_ch_cons ai_k46_0 (ai_ch_cons ai_k46_1 (ai_ch_cons ai_k46_2 (ai_ch_cons ai_k46_3 (ai_ch_cons ai_k46_4 (ai_ch_cons ai_k46_5 (ai_ch_cons ai_k46_6 (ai_ch_cons ai_k46_7 (ai_ch_cons ai_k46_8 (ai_ch_cons ai_k46_9 (ai_ch_cons ai_k46_10 (ai_ch_cons ai_k46_11 (ai_ch_cons ai_k46_12 (ai_ch_cons ai_k46_13 (ai_ch_cons ai_k46_14 (ai_ch_cons ai_k46_15 (ai_ch_cons ai_k46_16 (ai_ch_cons ai_k46_17 (ai_ch_cons ai_k46_18 (ai_ch_cons ai_k46_19 (rfl)))))))))))))))))))) : ai_ch ai_r46 0 ai_d46 = true)
set_option maxRecDepth 100000 in
theorem ai_k47 : ai_chk ai_r47 = true := by decide +kernel
set_option maxRecDepth 100000 in
theorem ai_k48 : ai_chk ai_r48 = true := by decide +kernel
set_option maxRecDepth 100000 in
theorem ai_k49 : ai_chk ai_r49 = true := by decide +kernel
set_option maxRecDepth 100000 in
theorem ai_k50 : ai_chk ai_r50 = true := by decide +kernel
set_option maxRecDepth 100000 in
theorem ai_k51 : ai_chk ai_r51 = true := by decide +kernel
set_option maxRecDepth 100000 in
theorem ai_k52 : ai_chk ai_r52 = true := by decide +kernel
set_option maxRecDepth 100000 in
theorem ai_k53 : ai_chk ai_r53 = true := by decide +kernel
set_option maxRecDepth 100000 in
theorem ai_k54 : ai_chk ai_r54 = true := by decide +kernel
set_option maxRecDepth 100000 in
theorem ai_k55 : ai_chk ai_r55 = true := by decide +kernel
set_option maxRecDepth 100000 in
theorem ai_k56 : ai_chk ai_r56 = true := by decide +kernel
set_option maxRecDepth 100000 in
theorem ai_k57 : ai_chk ai_r57 = true := by decide +kernel
set_option maxRecDepth 100000 in
theorem ai_k58 : ai_chk ai_r58 = true := by decide +kernel
set_option maxRecDepth 100000 in
theorem ai_k59_0 : ai_ch1 ai_r59 0 0 (ai_d59.getD 0 []) = true := by decide +kernel
set_option maxRecDepth 100000 in
theorem ai_k59_1 : ai_ch1 ai_r59 1 0 (ai_d59.getD 1 []) = true := by decide +kernel
set_option maxRecDepth 100000 in
theorem ai_k59_2 : ai_ch1 ai_r59 2 0 (ai_d59.getD 2 []) = true := by decide +kernel
set_option maxRecDepth 100000 in
theorem ai_k59_3 : ai_ch1 ai_r59 3 0 (ai_d59.getD 3 []) = true := by decide +kernel
set_option maxRecDepth 100000 in
theorem ai_k59_4 : ai_ch1 ai_r59 4 0 (ai_d59.getD 4 []) = true := by decide +kernel
set_option maxRecDepth 100000 in
theorem ai_k59_5 : ai_ch1 ai_r59 5 0 (ai_d59.getD 5 []) = true := by decide +kernel
set_option maxRecDepth 100000 in
theorem ai_k59_6 : ai_ch1 ai_r59 6 0 (ai_d59.getD 6 []) = true := by decide +kernel
set_option maxRecDepth 100000 in
theorem ai_k59_7 : ai_ch1 ai_r59 7 0 (ai_d59.getD 7 []) = true := by decide +kernel
set_option maxRecDepth 100000 in
theorem ai_k59_8 : ai_ch1 ai_r59 8 0 (ai_d59.getD 8 []) = true := by decide +kernel
set_option maxRecDepth 100000 in
theorem ai_k59_9 : ai_ch1 ai_r59 9 0 (ai_d59.getD 9 []) = true := by decide +kernel
set_option maxRecDepth 100000 in
theorem ai_k59 : ai_chk ai_r59 = true := (ai_ch_cons ai_k59_0 (ai_ch_cons ai_k59_1 (ai_ch_cons ai_k59_2 (ai_ch_cons ai_k59_3 (ai_ch_cons ai_k59_4 (ai_ch_cons ai_k59_5 (ai_ch_cons ai_k59_6 (ai_ch_cons ai_k59_7 (ai_ch_cons ai_k59_8 (ai_ch_cons ai_k59_9 (rfl)))))))))) : ai_ch ai_r59 0 ai_d59 = true)
set_option maxRecDepth 100000 in
theorem ai_k60 : ai_chk ai_r60 = true := by decide +kernel
set_option maxRecDepth 100000 in
theorem ai_k61 : ai_chk ai_r61 = true := by decide +kernel
set_option maxRecDepth 100000 in
theorem ai_k62 : ai_chk ai_r62 = true := by decide +kernel
set_option maxRecDepth 100000 in
theorem ai_k63_0 : ai_ch1 ai_r63 0 0 (ai_d63.getD 0 []) = true := by decide +kernel
set_option maxRecDepth 100000 in
theorem ai_k63_1 : ai_ch1 ai_r63 1 0 (ai_d63.getD 1 []) = true := by decide +kernel
set_option maxRecDepth 100000 in
theorem ai_k63_2 : ai_ch1 ai_r63 2 0 (ai_d63.getD 2 []) = true := by decide +kernel
set_option maxRecDepth 100000 in
theorem ai_k63_3 : ai_ch1 ai_r63 3 0 (ai_d63.getD 3 []) = true := by decide +kernel
set_option maxRecDepth 100000 in
theorem ai_k63_4 : ai_ch1 ai_r63 4 0 (ai_d63.getD 4 []) = true := by decide +kernel
set_option maxRecDepth 100000 in
theorem ai_k63_5 : ai_ch1 ai_r63 5 0 (ai_d63.getD 5 []) = true := by decide +kernel
set_option maxRecDepth 100000 in
theorem ai_k63_6 : ai_ch1 ai_r63 6 0 (ai_d63.getD 6 []) = true := by decide +kernel
set_option maxRecDepth 100000 in
theorem ai_k63_7 : ai_ch1 ai_r63 7 0 (ai_d63.getD 7 []) = true := by decide +kernel
set_option maxRecDepth 100000 in
theorem ai_k63 : ai_chk ai_r63 = true := (ai_ch_cons ai_k63_0 (ai_ch_cons ai_k63_1 (ai_ch_cons ai_k63_2 (ai_ch_cons ai_k63_3 (ai_ch_cons ai_k63_4 (ai_ch_cons ai_k63_5 (ai_ch_cons ai_k63_6 (ai_ch_cons ai_k63_7 (rfl)))))))) : ai_ch ai_r63 0 ai_d63 = true)
set_option maxRecDepth 100000 in
theorem ai_k64 : ai_chk ai_r64 = true := by decide +kernel
set_option maxRecDepth 100000 in
theorem ai_k65 : ai_chk ai_r65 = true := by decide +kernel
set_option maxRecDepth 100000 in
theorem ai_k66 : ai_chk ai_r66 = true := by decide +kernel
set_option maxRecDepth 100000 in
theorem ai_k67 : ai_chk ai_r67 = true := by decide +kernel
end
section
set_option maxRecDepth 100000 in
theorem ai_k68_0 : ai_ch1 ai_r68 0 0 (ai_d68.getD 0 []) = true := by decide +kernel
set_option maxRecDepth 100000 in
theorem ai_k68_1 : ai_ch1 ai_r68 1 0 (ai_d68.getD 1 []) = true := by decide +kernel
set_option maxRecDepth 100000 in
theorem ai_k68_2 : ai_ch1 ai_r68 2 0 (ai_d68.getD 2 []) = true := by decide +kernel
set_option maxRecDepth 100000 in
theorem ai_k68_3 : ai_ch1 ai_r68 3 0 (ai_d68.getD 3 []) = true := by decide +kernel
set_option maxRecDepth 100000 in
theorem ai_k68_4 : ai_ch1 ai_r68 4 0 (ai_d68.getD 4 []) = true := by decide +kernel
set_option maxRecDepth 100000 in
theorem ai_k68_5 : ai_ch1 ai_r68 5 0 (ai_d68.getD 5 []) = true := by decide +kernel
set_option maxRecDepth 100000 in
theorem ai_k68_6 : ai_ch1 ai_r68 6 0 (ai_d68.getD 6 []) = true := by decide +kernel
set_option maxRecDepth 100000 in
theorem ai_k68_7 : ai_ch1 ai_r68 7 0 (ai_d68.getD 7 []) = true := by decide +kernel
set_option maxRecDepth 100000 in
theorem ai_k68 : ai_chk ai_r68 = true := (ai_ch_cons ai_k68_0 (ai_ch_cons ai_k68_1 (ai_ch_cons ai_k68_2 (ai_ch_cons ai_k68_3 (ai_ch_cons ai_k68_4 (ai_ch_cons ai_k68_5 (ai_ch_cons ai_k68_6 (ai_ch_cons ai_k68_7 (rfl)))))))) : ai_ch ai_r68 0 ai_d68 = true)
set_option maxRecDepth 100000 in
theorem ai_k69 : ai_chk ai_r69 = true := by decide +kernel
set_option maxRecDepth 100000 in
theorem ai_k70 : ai_chk ai_r70 = true := by decide +kernel
set_option maxRecDepth 100000 in
theorem ai_k71_0 : ai_ch1 ai_r71 0 0 (ai_d71.getD 0 []) = true := by decide +kernel
set_option maxRecDepth 100000 in
theorem ai_k71_1 : ai_ch1 ai_r71 1 0 (ai_d71.getD 1 []) = true := by decide +kernel
set_option maxRecDepth 100000 in
theorem ai_k71_2 : ai_ch1 ai_r71 2 0 (ai_d71.getD 2 []) = true := by decide +kernel
set_option maxRecDepth 100000 in
theorem ai_k71_3 : ai_ch1 ai_r71 3 0 (ai_d71.getD 3 []) = true := by decide +kernel
set_option maxRecDepth 100000 in
theorem ai_k71_4 : ai_ch1 ai_r71 4 0 (ai_d71.getD 4 []) = true := by decide +kernel
set_option maxRecDepth 100000 in
theorem ai_k71_5 : ai_ch1 ai_r71 5 0 (ai_d71.getD 5 []) = true := by decide +kernel
set_option maxRecDepth 100000 in
theorem ai_k71_6 : ai_ch1 ai_r71 6 0 (ai_d71.getD 6 []) = true := by decide +kernel
set_option maxRecDepth 100000 in
theorem ai_k71_7 : ai_ch1 ai_r71 7 0 (ai_d71.getD 7 []) = true := by decide +kernel
set_option maxRecDepth 100000 in
theorem ai_k71 : ai_chk ai_r71 = true := (ai_ch_cons ai_k71_0 (ai_ch_cons ai_k71_1 (ai_ch_cons ai_k71_2 (ai_ch_cons ai_k71_3 (ai_ch_cons ai_k71_4 (ai_ch_cons ai_k71_5 (ai_ch_cons ai_k71_6 (ai_ch_cons ai_k71_7 (rfl)))))))) : ai_ch ai_r71 0 ai_d71 = true)
set_option maxRecDepth 100000 in
theorem ai_k72 : ai_chk ai_r72 = true := by decide +kernel
set_option maxRecDepth 100000 in
theorem ai_k73 : ai_chk ai_r73 = true := by decide +kernel
set_option maxRecDepth 100000 in
theorem ai_k74 : ai_chk ai_r74 = true := by decide +kernel
set_option maxRecDepth 100000 in
theorem ai_k75 : ai_chk ai_r75 = true := by decide +kernel
set_option maxRecDepth 100000 in
theorem ai_k76 : ai_chk ai_r76 = true := by decide +kernel
set_option maxRecDepth 100000 in
theorem ai_k77 : ai_chk ai_r77 = true := by decide +kernel
set_option maxRecDepth 100000 in
theorem ai_k78 : ai_chk ai_r78 = true := by decide +kernel
set_option maxRecDepth 100000 in
theorem ai_k79 : ai_chk ai_r79 = true := by decide +kernel
set_option maxRecDepth 100000 in
theorem ai_k80 : ai_chk ai_r80 = true := by decide +kernel
set_option maxRecDepth 100000 in
theorem ai_k81 : ai_chk ai_r81 = true := by decide +kernel
set_option maxRecDepth 100000 in
theorem ai_k82 : ai_chk ai_r82 = true := by decide +kernel
set_option maxRecDepth 100000 in
theorem ai_k83 : ai_chk ai_r83 = true := by decide +kernel
set_option maxRecDepth 100000 in
theorem ai_k84 : ai_chk ai_r84 = true := by decide +kernel
set_option maxRecDepth 100000 in
theorem ai_k85 : ai_chk ai_r85 = true := by decide +kernel
set_option maxRecDepth 100000 in
theorem ai_k86 : ai_chk ai_r86 = true := by decide +kernel
set_option maxRecDepth 100000 in
theorem ai_k87 : ai_chk ai_r87 = true := by decide +kernel
set_option maxRecDepth 100000 in
theorem ai_k88 : ai_chk ai_r88 = true := by decide +kernel
set_option maxRecDepth 100000 in
theorem ai_k89 : ai_chk ai_r89 = true := by decide +kernel
set_option maxRecDepth 100000 in
theorem ai_k90 : ai_chk ai_r90 = true := by decide +kernel
set_option maxRecDepth 100000 in
theorem ai_k91 : ai_chk ai_r91 = true := by decide +kernel
set_option maxRecDepth 100000 in
theorem ai_k92 : ai_chk ai_r92 = true := by decide +kernel
set_option maxRecDepth 100000 in
theorem ai_k93 : ai_chk ai_r93 = true := by decide +kernel
set_option maxRecDepth 100000 in
theorem ai_k94_0 : ai_ch1 ai_r94 0 0 (ai_d94.getD 0 []) = true := by decide +kernel
set_option maxRecDepth 100000 in
theorem ai_k94_1 : ai_ch1 ai_r94 1 0 (ai_d94.getD 1 []) = true := by decide +kernel
set_option maxRecDepth 100000 in
theorem ai_k94_2 : ai_ch1 ai_r94 2 0 (ai_d94.getD 2 []) = true := by decide +kernel
set_option maxRecDepth 100000 in
theorem ai_k94_3 : ai_ch1 ai_r94 3 0 (ai_d94.getD 3 []) = true := by decide +kernel
set_option maxRecDepth 100000 in
theorem ai_k94_4 : ai_ch1 ai_r94 4 0 (ai_d94.getD 4 []) = true := by decide +kernel
set_option maxRecDepth 100000 in
theorem ai_k94_5 : ai_ch1 ai_r94 5 0 (ai_d94.getD 5 []) = true := by decide +kernel
set_option maxRecDepth 100000 in
theorem ai_k94_6 : ai_ch1 ai_r94 6 0 (ai_d94.getD 6 []) = true := by decide +kernel
set_option maxRecDepth 100000 in
theorem ai_k94_7 : ai_ch1 ai_r94 7 0 (ai_d94.getD 7 []) = true := by decide +kernel
set_option maxRecDepth 100000 in
theorem ai_k94_8 : ai_ch1 ai_r94 8 0 (ai_d94.getD 8 []) = true := by decide +kernel
set_option maxRecDepth 100000 in
theorem ai_k94_9 : ai_ch1 ai_r94 9 0 (ai_d94.getD 9 []) = true := by decide +kernel
set_option maxRecDepth 100000 in
theorem ai_k94 : ai_chk ai_r94 = true := (ai_ch_cons ai_k94_0 (ai_ch_cons ai_k94_1 (ai_ch_cons ai_k94_2 (ai_ch_cons ai_k94_3 (ai_ch_cons ai_k94_4 (ai_ch_cons ai_k94_5 (ai_ch_cons ai_k94_6 (ai_ch_cons ai_k94_7 (ai_ch_cons ai_k94_8 (ai_ch_cons ai_k94_9 (rfl)))))))))) : ai_ch ai_r94 0 ai_d94 = true)
set_option maxRecDepth 100000 in
theorem ai_k95 : ai_chk ai_r95 = true := by decide +kernel
set_option maxRecDepth 100000 in
theorem ai_k96 : ai_chk ai_r96 = true := by decide +kernel
set_option maxRecDepth 100000 in
theorem ai_k97 : ai_chk ai_r97 = true := by decide +kernel
set_option maxRecDepth 100000 in
theorem ai_k98 : ai_chk ai_r98 = true := by decide +kernel
set_option maxRecDepth 100000 in
theorem ai_k99 : ai_chk ai_r99 = true := by decide +kernel
set_option maxRecDepth 100000 in
theorem ai_k100 : ai_chk ai_r100 = true := by decide +kernel
set_option maxRecDepth 100000 in
theorem ai_k101 : ai_chk ai_r101 = true := by decide +kernel
set_option maxRecDepth 100000 in
theorem ai_k102 : ai_chk ai_r102 = true := by decide +kernel
set_option maxRecDepth 100000 in
theorem ai_k103_0 : ai_ch1 ai_r103 0 0 (ai_d103.getD 0 []) = true := by decide +kernel
set_option maxRecDepth 100000 in
theorem ai_k103_1 : ai_ch1 ai_r103 1 0 (ai_d103.getD 1 []) = true := by decide +kernel
set_option maxRecDepth 100000 in
theorem ai_k103_2 : ai_ch1 ai_r103 2 0 (ai_d103.getD 2 []) = true := by decide +kernel
set_option maxRecDepth 100000 in
theorem ai_k103_3 : ai_ch1 ai_r103 3 0 (ai_d103.getD 3 []) = true := by decide +kernel
set_option maxRecDepth 100000 in
theorem ai_k103_4 : ai_ch1 ai_r103 4 0 (ai_d103.getD 4 []) = true := by decide +kernel
set_option maxRecDepth 100000 in
theorem ai_k103_5 : ai_ch1 ai_r103 5 0 (ai_d103.getD 5 []) = true := by decide +kernel
set_option maxRecDepth 100000 in
theorem ai_k103_6 : ai_ch1 ai_r103 6 0 (ai_d103.getD 6 []) = true := by decide +kernel
set_option maxRecDepth 100000 in
theorem ai_k103_7 : ai_ch1 ai_r103 7 0 (ai_d103.getD 7 []) = true := by decide +kernel
set_option maxRecDepth 100000 in
theorem ai_k103_8 : ai_ch1 ai_r103 8 0 (ai_d103.getD 8 []) = true := by decide +kernel
set_option maxRecDepth 100000 in
theorem ai_k103_9 : ai_ch1 ai_r103 9 0 (ai_d103.getD 9 []) = true := by decide +kernel
set_option maxRecDepth 100000 in
theorem ai_k103_10 : ai_ch1 ai_r103 10 0 (ai_d103.getD 10 []) = true := by decide +kernel
set_option maxRecDepth 100000 in
theorem ai_k103_11 : ai_ch1 ai_r103 11 0 (ai_d103.getD 11 []) = true := by decide +kernel
set_option maxRecDepth 100000 in
theorem ai_k103_12 : ai_ch1 ai_r103 12 0 (ai_d103.getD 12 []) = true := by decide +kernel
set_option maxRecDepth 100000 in
theorem ai_k103_13 : ai_ch1 ai_r103 13 0 (ai_d103.getD 13 []) = true := by decide +kernel
set_option maxRecDepth 100000 in
theorem ai_k103 : ai_chk ai_r103 = true := (ai_ch_cons ai_k103_0 (ai_ch_cons ai_k103_1 (ai_ch_cons ai_k103_2 (ai_ch_cons ai_k103_3 (ai_ch_cons ai_k103_4 (ai_ch_cons ai_k103_5 (ai_ch_cons ai_k103_6 (ai_ch_cons ai_k103_7 (ai_ch_cons ai_k103_8 (ai_ch_cons ai_k103_9 (ai_ch_cons ai_k103_10 (ai_ch_cons ai_k103_11 (ai_ch_cons ai_k103_12 (ai_ch_cons ai_k103_13 (rfl)))))))))))))) : ai_ch ai_r103 0 ai_d103 = true)
set_option maxRecDepth 100000 in
theorem ai_k104 : ai_chk ai_r104 = true := by decide +kernel
set_option maxRecDepth 100000 in
theorem ai_k105 : ai_chk ai_r105 = true := by decide +kernel
set_option maxRecDepth 100000 in
theorem ai_k106_0 : ai_ch1 ai_r106 0 0 (ai_d106.getD 0 []) = true := by decide +kernel
set_option maxRecDepth 100000 in
theorem ai_k106_1 : ai_ch1 ai_r106 1 0 (ai_d106.getD 1 []) = true := by decide +kernel
set_option maxRecDepth 100000 in
theorem ai_k106_2 : ai_ch1 ai_r106 2 0 (ai_d106.getD 2 []) = true := by decide +kernel
set_option maxRecDepth 100000 in
theorem ai_k106_3 : ai_ch1 ai_r106 3 0 (ai_d106.getD 3 []) = true := by decide +kernel
set_option maxRecDepth 100000 in
theorem ai_k106_4 : ai_ch1 ai_r106 4 0 (ai_d106.getD 4 []) = true := by decide +kernel
set_option maxRecDepth 100000 in
theorem ai_k106_5 : ai_ch1 ai_r106 5 0 (ai_d106.getD 5 []) = true := by decide +kernel
set_option maxRecDepth 100000 in
theorem ai_k106_6 : ai_ch1 ai_r106 6 0 (ai_d106.getD 6 []) = true := by decide +kernel
set_option maxRecDepth 100000 in
theorem ai_k106_7 : ai_ch1 ai_r106 7 0 (ai_d106.getD 7 []) = true := by decide +kernel
set_option maxRecDepth 100000 in
theorem ai_k106_8 : ai_ch1 ai_r106 8 0 (ai_d106.getD 8 []) = true := by decide +kernel
set_option maxRecDepth 100000 in
theorem ai_k106 : ai_chk ai_r106 = true := (ai_ch_cons ai_k106_0 (ai_ch_cons ai_k106_1 (ai_ch_cons ai_k106_2 (ai_ch_cons ai_k106_3 (ai_ch_cons ai_k106_4 (ai_ch_cons ai_k106_5 (ai_ch_cons ai_k106_6 (ai_ch_cons ai_k106_7 (ai_ch_cons ai_k106_8 (rfl))))))))) : ai_ch ai_r106 0 ai_d106 = true)
set_option maxRecDepth 100000 in
theorem ai_k107 : ai_chk ai_r107 = true := by decide +kernel
set_option maxRecDepth 100000 in
theorem ai_k108 : ai_chk ai_r108 = true := by decide +kernel
set_option maxRecDepth 100000 in
theorem ai_k109 : ai_chk ai_r109 = true := by decide +kernel
set_option maxRecDepth 100000 in
theorem ai_k110 : ai_chk ai_r110 = true := by decide +kernel
set_option maxRecDepth 100000 in
theorem ai_k111 : ai_chk ai_r111 = true := by decide +kernel
set_option maxRecDepth 100000 in
theorem ai_k112_0 : ai_ch1 ai_r112 0 0 (ai_d112.getD 0 []) = true := by decide +kernel
set_option maxRecDepth 100000 in
theorem ai_k112_1 : ai_ch1 ai_r112 1 0 (ai_d112.getD 1 []) = true := by decide +kernel
set_option maxRecDepth 100000 in
theorem ai_k112_2 : ai_ch1 ai_r112 2 0 (ai_d112.getD 2 []) = true := by decide +kernel
set_option maxRecDepth 100000 in
theorem ai_k112_3 : ai_ch1 ai_r112 3 0 (ai_d112.getD 3 []) = true := by decide +kernel
set_option maxRecDepth 100000 in
theorem ai_k112_4 : ai_ch1 ai_r112 4 0 (ai_d112.getD 4 []) = true := by decide +kernel
set_option maxRecDepth 100000 in
theorem ai_k112_5 : ai_ch1 ai_r112 5 0 (ai_d112.getD 5 []) = true := by decide +kernel
set_option maxRecDepth 100000 in
theorem ai_k112_6 : ai_ch1 ai_r112 6 0 (ai_d112.getD 6 []) = true := by decide +kernel
set_option maxRecDepth 100000 in
theorem ai_k112_7 : ai_ch1 ai_r112 7 0 (ai_d112.getD 7 []) = true := by decide +kernel
set_option maxRecDepth 100000 in
theorem ai_k112_8 : ai_ch1 ai_r112 8 0 (ai_d112.getD 8 []) = true := by decide +kernel
set_option maxRecDepth 100000 in
theorem ai_k112_9 : ai_ch1 ai_r112 9 0 (ai_d112.getD 9 []) = true := by decide +kernel
set_option maxRecDepth 100000 in
theorem ai_k112_10 : ai_ch1 ai_r112 10 0 (ai_d112.getD 10 []) = true := by decide +kernel
set_option maxRecDepth 100000 in
theorem ai_k112_11 : ai_ch1 ai_r112 11 0 (ai_d112.getD 11 []) = true := by decide +kernel
set_option maxRecDepth 100000 in
theorem ai_k112_12 : ai_ch1 ai_r112 12 0 (ai_d112.getD 12 []) = true := by decide +kernel
set_option maxRecDepth 100000 in
theorem ai_k112_13 : ai_ch1 ai_r112 13 0 (ai_d112.getD 13 []) = true := by decide +kernel
set_option maxRecDepth 100000 in
theorem ai_k112_14 : ai_ch1 ai_r112 14 0 (ai_d112.getD 14 []) = true := by decide +kernel
set_option maxRecDepth 100000 in
theorem ai_k112 : ai_chk ai_r112 = true := (ai_ch_cons ai_k112_0 (ai_ch_cons ai_k112_1 (ai_ch_cons ai_k112_2 (ai_ch_cons ai_k112_3 (ai_ch_cons ai_k112_4 (ai_ch_cons ai_k112_5 (ai_ch_cons ai_k112_6 (ai_ch_cons ai_k112_7 (ai_ch_cons ai_k112_8 (ai_ch_cons ai_k112_9 (ai_ch_cons ai_k112_10 (ai_ch_cons ai_k112_11 (ai_ch_cons ai_k112_12 (ai_ch_cons ai_k112_13 (ai_ch_cons ai_k112_14 (rfl))))))))))))))) : ai_ch ai_r112 0 ai_d112 = true)
set_option maxRecDepth 100000 in
theorem ai_k113_0 : ai_ch1 ai_r113 0 0 (ai_d113.getD 0 []) = true := by decide +kernel
set_option maxRecDepth 100000 in
theorem ai_k113_1 : ai_ch1 ai_r113 1 0 (ai_d113.getD 1 []) = true := by decide +kernel
set_option maxRecDepth 100000 in
theorem ai_k113_2 : ai_ch1 ai_r113 2 0 (ai_d113.getD 2 []) = true := by decide +kernel
set_option maxRecDepth 100000 in
theorem ai_k113_3 : ai_ch1 ai_r113 3 0 (ai_d113.getD 3 []) = true := by decide +kernel
set_option maxRecDepth 100000 in
theorem ai_k113_4 : ai_ch1 ai_r113 4 0 (ai_d113.getD 4 []) = true := by decide +kernel
set_option maxRecDepth 100000 in
theorem ai_k113_5 : ai_ch1 ai_r113 5 0 (ai_d113.getD 5 []) = true := by decide +kernel
set_option maxRecDepth 100000 in
theorem ai_k113_6 : ai_ch1 ai_r113 6 0 (ai_d113.getD 6 []) = true := by decide +kernel
set_option maxRecDepth 100000 in
theorem ai_k113_7 : ai_ch1 ai_r113 7 0 (ai_d113.getD 7 []) = true := by decide +kernel
set_option maxRecDepth 100000 in
theorem ai_k113_8 : ai_ch1 ai_r113 8 0 (ai_d113.getD 8 []) = true := by decide +kernel
set_option maxRecDepth 100000 in
theorem ai_k113 : ai_chk ai_r113 = true := (ai_ch_cons ai_k113_0 (ai_ch_cons ai_k113_1 (ai_ch_cons ai_k113_2 (ai_ch_cons ai_k113_3 (ai_ch_cons ai_k113_4 (ai_ch_cons ai_k113_5 (ai_ch_cons ai_k113_6 (ai_ch_cons ai_k113_7 (ai_ch_cons ai_k113_8 (rfl))))))))) : ai_ch ai_r113 0 ai_d113 = true)
set_option maxRecDepth 100000 in
theorem ai_k114 : ai_chk ai_r114 = true := by decide +kernel
set_option maxRecDepth 100000 in
theorem ai_k115 : ai_chk ai_r115 = true := by decide +kernel
set_option maxRecDepth 100000 in
theorem ai_k116_0 : ai_ch1 ai_r116 0 0 (ai_d116.getD 0 []) = true := by decide +kernel
set_option maxRecDepth 100000 in
theorem ai_k116_1 : ai_ch1 ai_r116 1 0 (ai_d116.getD 1 []) = true := by decide +kernel
set_option maxRecDepth 100000 in
theorem ai_k116_2 : ai_ch1 ai_r116 2 0 (ai_d116.getD 2 []) = true := by decide +kernel
set_option maxRecDepth 100000 in
theorem ai_k116_3 : ai_ch1 ai_r116 3 0 (ai_d116.getD 3 []) = true := by decide +kernel
set_option maxRecDepth 100000 in
theorem ai_k116_4 : ai_ch1 ai_r116 4 0 (ai_d116.getD 4 []) = true := by decide +kernel
set_option maxRecDepth 100000 in
theorem ai_k116_5 : ai_ch1 ai_r116 5 0 (ai_d116.getD 5 []) = true := by decide +kernel
set_option maxRecDepth 100000 in
theorem ai_k116_6 : ai_ch1 ai_r116 6 0 (ai_d116.getD 6 []) = true := by decide +kernel
set_option maxRecDepth 100000 in
theorem ai_k116_7 : ai_ch1 ai_r116 7 0 (ai_d116.getD 7 []) = true := by decide +kernel
set_option maxRecDepth 100000 in
theorem ai_k116_8 : ai_ch1 ai_r116 8 0 (ai_d116.getD 8 []) = true := by decide +kernel
set_option maxRecDepth 100000 in
theorem ai_k116_9 : ai_ch1 ai_r116 9 0 (ai_d116.getD 9 []) = true := by decide +kernel
set_option maxRecDepth 100000 in
theorem ai_k116_10 : ai_ch1 ai_r116 10 0 (ai_d116.getD 10 []) = true := by decide +kernel
set_option maxRecDepth 100000 in
theorem ai_k116_11 : ai_ch1 ai_r116 11 0 (ai_d116.getD 11 []) = true := by decide +kernel
set_option maxRecDepth 100000 in
theorem ai_k116_12 : ai_ch1 ai_r116 12 0 (ai_d116.getD 12 []) = true := by decide +kernel
set_option maxRecDepth 100000 in
theorem ai_k116_13 : ai_ch1 ai_r116 13 0 (ai_d116.getD 13 []) = true := by decide +kernel
set_option maxRecDepth 100000 in
theorem ai_k116_14 : ai_ch1 ai_r116 14 0 (ai_d116.getD 14 []) = true := by decide +kernel
set_option maxRecDepth 100000 in
theorem ai_k116_15 : ai_ch1 ai_r116 15 0 (ai_d116.getD 15 []) = true := by decide +kernel
set_option maxRecDepth 100000 in
theorem ai_k116_16 : ai_ch1 ai_r116 16 0 (ai_d116.getD 16 []) = true := by decide +kernel
set_option maxRecDepth 100000 in
theorem ai_k116 : ai_chk ai_r116 = true := (ai_ch_cons ai_k116_0 (ai_ch_cons ai_k116_1 (ai_ch_cons ai_k116_2 (ai_ch_cons ai_k116_3 (ai_ch_cons ai_k116_4 (ai_ch_cons ai_k116_5 (ai_ch_cons ai_k116_6 (ai_ch_cons ai_k116_7 (ai_ch_cons ai_k116_8 (ai_ch_cons ai_k116_9 (ai_ch_cons ai_k116_10 (ai_ch_cons ai_k116_11 (ai_ch_cons ai_k116_12 (ai_ch_cons ai_k116_13 (ai_ch_cons ai_k116_14 (ai_ch_cons ai_k116_15 (ai_ch_cons ai_k116_16 (rfl))))))))))))))))) : ai_ch ai_r116 0 ai_d116 = true)
set_option maxRecDepth 100000 in
theorem ai_k117_0 : ai_ch1 ai_r117 0 0 (ai_d117.getD 0 []) = true := by decide +kernel
set_option maxRecDepth 100000 in
theorem ai_k117_1 : ai_ch1 ai_r117 1 0 (ai_d117.getD 1 []) = true := by decide +kernel
set_option maxRecDepth 100000 in
theorem ai_k117_2 : ai_ch1 ai_r117 2 0 (ai_d117.getD 2 []) = true := by decide +kernel
set_option maxRecDepth 100000 in
theorem ai_k117_3 : ai_ch1 ai_r117 3 0 (ai_d117.getD 3 []) = true := by decide +kernel
set_option maxRecDepth 100000 in
theorem ai_k117_4 : ai_ch1 ai_r117 4 0 (ai_d117.getD 4 []) = true := by decide +kernel
set_option maxRecDepth 100000 in
theorem ai_k117_5 : ai_ch1 ai_r117 5 0 (ai_d117.getD 5 []) = true := by decide +kernel
set_option maxRecDepth 100000 in
theorem ai_k117_6 : ai_ch1 ai_r117 6 0 (ai_d117.getD 6 []) = true := by decide +kernel
set_option maxRecDepth 100000 in
theorem ai_k117 : ai_chk ai_r117 = true := (ai_ch_cons ai_k117_0 (ai_ch_cons ai_k117_1 (ai_ch_cons ai_k117_2 (ai_ch_cons ai_k117_3 (ai_ch_cons ai_k117_4 (ai_ch_cons ai_k117_5 (ai_ch_cons ai_k117_6 (rfl))))))) : ai_ch ai_r117 0 ai_d117 = true)
set_option maxRecDepth 100000 in
theorem ai_k118_0 : ai_ch1 ai_r118 0 0 (ai_d118.getD 0 []) = true := by decide +kernel
set_option maxRecDepth 100000 in
theorem ai_k118_1 : ai_ch1 ai_r118 1 0 (ai_d118.getD 1 []) = true := by decide +kernel
set_option maxRecDepth 100000 in
theorem ai_k118_2 : ai_ch1 ai_r118 2 0 (ai_d118.getD 2 []) = true := by decide +kernel
set_option maxRecDepth 100000 in
theorem ai_k118_3 : ai_ch1 ai_r118 3 0 (ai_d118.getD 3 []) = true := by decide +kernel
set_option maxRecDepth 100000 in
theorem ai_k118_4 : ai_ch1 ai_r118 4 0 (ai_d118.getD 4 []) = true := by decide +kernel
set_option maxRecDepth 100000 in
theorem ai_k118_5 : ai_ch1 ai_r118 5 0 (ai_d118.getD 5 []) = true := by decide +kernel
set_option maxRecDepth 100000 in
theorem ai_k118_6 : ai_ch1 ai_r118 6 0 (ai_d118.getD 6 []) = true := by decide +kernel
set_option maxRecDepth 100000 in
theorem ai_k118_7 : ai_ch1 ai_r118 7 0 (ai_d118.getD 7 []) = true := by decide +kernel
set_option maxRecDepth 100000 in
theorem ai_k118_8 : ai_ch1 ai_r118 8 0 (ai_d118.getD 8 []) = true := by decide +kernel
set_option maxRecDepth 100000 in
theorem ai_k118 : ai_chk ai_r118 = true := (ai_ch_cons ai_k118_0 (ai_ch_cons ai_k118_1 (ai_ch_cons ai_k118_2 (ai_ch_cons ai_k118_3 (ai_ch_cons ai_k118_4 (ai_ch_cons ai_k118_5 (ai_ch_cons ai_k118_6 (ai_ch_cons ai_k118_7 (ai_ch_cons ai_k118_8 (rfl))))))))) : ai_ch ai_r118 0 ai_d118 = true)
set_option maxRecDepth 100000 in
theorem ai_k119 : ai_chk ai_r119 = true := by decide +kernel
set_option maxRecDepth 100000 in
theorem ai_k120 : ai_chk ai_r120 = true := by decide +kernel
set_option maxRecDepth 100000 in
theorem ai_k121 : ai_chk ai_r121 = true := by decide +kernel
set_option maxRecDepth 100000 in
theorem ai_k122 : ai_chk ai_r122 = true := by decide +kernel
end
section
set_option maxRecDepth 100000 in
theorem ai_k123_0 : ai_ch1 ai_r123 0 0 (ai_d123.getD 0 []) = true := by decide +kernel
set_option maxRecDepth 100000 in
theorem ai_k123_1 : ai_ch1 ai_r123 1 0 (ai_d123.getD 1 []) = true := by decide +kernel
set_option maxRecDepth 100000 in
theorem ai_k123_2 : ai_ch1 ai_r123 2 0 (ai_d123.getD 2 []) = true := by decide +kernel
set_option maxRecDepth 100000 in
theorem ai_k123_3 : ai_ch1 ai_r123 3 0 (ai_d123.getD 3 []) = true := by decide +kernel
set_option maxRecDepth 100000 in
theorem ai_k123_4 : ai_ch1 ai_r123 4 0 (ai_d123.getD 4 []) = true := by decide +kernel
set_option maxRecDepth 100000 in
theorem ai_k123_5 : ai_ch1 ai_r123 5 0 (ai_d123.getD 5 []) = true := by decide +kernel
set_option maxRecDepth 100000 in
theorem ai_k123_6 : ai_ch1 ai_r123 6 0 (ai_d123.getD 6 []) = true := by decide +kernel
set_option maxRecDepth 100000 in
theorem ai_k123_7 : ai_ch1 ai_r123 7 0 (ai_d123.getD 7 []) = true := by decide +kernel
set_option maxRecDepth 100000 in
theorem ai_k123_8 : ai_ch1 ai_r123 8 0 (ai_d123.getD 8 []) = true := by decide +kernel
set_option maxRecDepth 100000 in
theorem ai_k123_9 : ai_ch1 ai_r123 9 0 (ai_d123.getD 9 []) = true := by decide +kernel
set_option maxRecDepth 100000 in
theorem ai_k123 : ai_chk ai_r123 = true := (ai_ch_cons ai_k123_0 (ai_ch_cons ai_k123_1 (ai_ch_cons ai_k123_2 (ai_ch_cons ai_k123_3 (ai_ch_cons ai_k123_4 (ai_ch_cons ai_k123_5 (ai_ch_cons ai_k123_6 (ai_ch_cons ai_k123_7 (ai_ch_cons ai_k123_8 (ai_ch_cons ai_k123_9 (rfl)))))))))) : ai_ch ai_r123 0 ai_d123 = true)
set_option maxRecDepth 100000 in
theorem ai_k124 : ai_chk ai_r124 = true := by decide +kernel
set_option maxRecDepth 100000 in
theorem ai_k125_0 : ai_ch1 ai_r125 0 0 (ai_d125.getD 0 []) = true := by decide +kernel
set_option maxRecDepth 100000 in
theorem ai_k125_1 : ai_ch1 ai_r125 1 0 (ai_d125.getD 1 []) = true := by decide +kernel
set_option maxRecDepth 100000 in
theorem ai_k125_2 : ai_ch1 ai_r125 2 0 (ai_d125.getD 2 []) = true := by decide +kernel
set_option maxRecDepth 100000 in
theorem ai_k125_3 : ai_ch1 ai_r125 3 0 (ai_d125.getD 3 []) = true := by decide +kernel
set_option maxRecDepth 100000 in
theorem ai_k125_4 : ai_ch1 ai_r125 4 0 (ai_d125.getD 4 []) = true := by decide +kernel
set_option maxRecDepth 100000 in
theorem ai_k125_5 : ai_ch1 ai_r125 5 0 (ai_d125.getD 5 []) = true := by decide +kernel
set_option maxRecDepth 100000 in
theorem ai_k125_6 : ai_ch1 ai_r125 6 0 (ai_d125.getD 6 []) = true := by decide +kernel
set_option maxRecDepth 100000 in
theorem ai_k125_7 : ai_ch1 ai_r125 7 0 (ai_d125.getD 7 []) = true := by decide +kernel
set_option maxRecDepth 100000 in
theorem ai_k125_8 : ai_ch1 ai_r125 8 0 (ai_d125.getD 8 []) = true := by decide +kernel
set_option maxRecDepth 100000 in
theorem ai_k125_9 : ai_ch1 ai_r125 9 0 (ai_d125.getD 9 []) = true := by decide +kernel
set_option maxRecDepth 100000 in
theorem ai_k125 : ai_chk ai_r125 = true := (ai_ch_cons ai_k125_0 (ai_ch_cons ai_k125_1 (ai_ch_cons ai_k125_2 (ai_ch_cons ai_k125_3 (ai_ch_cons ai_k125_4 (ai_ch_cons ai_k125_5 (ai_ch_cons ai_k125_6 (ai_ch_cons ai_k125_7 (ai_ch_cons ai_k125_8 (ai_ch_cons ai_k125_9 (rfl)))))))))) : ai_ch ai_r125 0 ai_d125 = true)
set_option maxRecDepth 100000 in
theorem ai_k126 : ai_chk ai_r126 = true := by decide +kernel
set_option maxRecDepth 100000 in
theorem ai_k127 : ai_chk ai_r127 = true := by decide +kernel
set_option maxRecDepth 100000 in
theorem ai_k128 : ai_chk ai_r128 = true := by decide +kernel
set_option maxRecDepth 100000 in
theorem ai_k129_0 : ai_ch1 ai_r129 0 0 (ai_d129.getD 0 []) = true := by decide +kernel
set_option maxRecDepth 100000 in
theorem ai_k129_1 : ai_ch1 ai_r129 1 0 (ai_d129.getD 1 []) = true := by decide +kernel
set_option maxRecDepth 100000 in
theorem ai_k129_2 : ai_ch1 ai_r129 2 0 (ai_d129.getD 2 []) = true := by decide +kernel
set_option maxRecDepth 100000 in
theorem ai_k129_3 : ai_ch1 ai_r129 3 0 (ai_d129.getD 3 []) = true := by decide +kernel
set_option maxRecDepth 100000 in
theorem ai_k129_4 : ai_ch1 ai_r129 4 0 (ai_d129.getD 4 []) = true := by decide +kernel
set_option maxRecDepth 100000 in
theorem ai_k129_5 : ai_ch1 ai_r129 5 0 (ai_d129.getD 5 []) = true := by decide +kernel
set_option maxRecDepth 100000 in
theorem ai_k129_6 : ai_ch1 ai_r129 6 0 (ai_d129.getD 6 []) = true := by decide +kernel
set_option maxRecDepth 100000 in
theorem ai_k129_7 : ai_ch1 ai_r129 7 0 (ai_d129.getD 7 []) = true := by decide +kernel
set_option maxRecDepth 100000 in
theorem ai_k129_8 : ai_ch1 ai_r129 8 0 (ai_d129.getD 8 []) = true := by decide +kernel
set_option maxRecDepth 100000 in
theorem ai_k129_9 : ai_ch1 ai_r129 9 0 (ai_d129.getD 9 []) = true := by decide +kernel
set_option maxRecDepth 100000 in
theorem ai_k129_10 : ai_ch1 ai_r129 10 0 (ai_d129.getD 10 []) = true := by decide +kernel
set_option maxRecDepth 100000 in
theorem ai_k129_11 : ai_ch1 ai_r129 11 0 (ai_d129.getD 11 []) = true := by decide +kernel
set_option maxRecDepth 100000 in
theorem ai_k129_12 : ai_ch1 ai_r129 12 0 (ai_d129.getD 12 []) = true := by decide +kernel
set_option maxRecDepth 100000 in
theorem ai_k129_13 : ai_ch1 ai_r129 13 0 (ai_d129.getD 13 []) = true := by decide +kernel
set_option maxRecDepth 100000 in
theorem ai_k129 : ai_chk ai_r129 = true := (ai_ch_cons ai_k129_0 (ai_ch_cons ai_k129_1 (ai_ch_cons ai_k129_2 (ai_ch_cons ai_k129_3 (ai_ch_cons ai_k129_4 (ai_ch_cons ai_k129_5 (ai_ch_cons ai_k129_6 (ai_ch_cons ai_k129_7 (ai_ch_cons ai_k129_8 (ai_ch_cons ai_k129_9 (ai_ch_cons ai_k129_10 (ai_ch_cons ai_k129_11 (ai_ch_cons ai_k129_12 (ai_ch_cons ai_k129_13 (rfl)))))))))))))) : ai_ch ai_r129 0 ai_d129 = true)
set_option maxRecDepth 100000 in
theorem ai_k130 : ai_chk ai_r130 = true := by decide +kernel
set_option maxRecDepth 100000 in
theorem ai_k131 : ai_chk ai_r131 = true := by decide +kernel
set_option maxRecDepth 100000 in
theorem ai_k132_0 : ai_ch1 ai_r132 0 0 (ai_d132.getD 0 []) = true := by decide +kernel
set_option maxRecDepth 100000 in
theorem ai_k132_1 : ai_ch1 ai_r132 1 0 (ai_d132.getD 1 []) = true := by decide +kernel
set_option maxRecDepth 100000 in
theorem ai_k132_2 : ai_ch1 ai_r132 2 0 (ai_d132.getD 2 []) = true := by decide +kernel
set_option maxRecDepth 100000 in
theorem ai_k132_3 : ai_ch1 ai_r132 3 0 (ai_d132.getD 3 []) = true := by decide +kernel
set_option maxRecDepth 100000 in
theorem ai_k132_4 : ai_ch1 ai_r132 4 0 (ai_d132.getD 4 []) = true := by decide +kernel
set_option maxRecDepth 100000 in
theorem ai_k132_5 : ai_ch1 ai_r132 5 0 (ai_d132.getD 5 []) = true := by decide +kernel
set_option maxRecDepth 100000 in
theorem ai_k132_6 : ai_ch1 ai_r132 6 0 (ai_d132.getD 6 []) = true := by decide +kernel
set_option maxRecDepth 100000 in
theorem ai_k132_7 : ai_ch1 ai_r132 7 0 (ai_d132.getD 7 []) = true := by decide +kernel
set_option maxRecDepth 100000 in
theorem ai_k132_8 : ai_ch1 ai_r132 8 0 (ai_d132.getD 8 []) = true := by decide +kernel
set_option maxRecDepth 100000 in
theorem ai_k132_9 : ai_ch1 ai_r132 9 0 (ai_d132.getD 9 []) = true := by decide +kernel
set_option maxRecDepth 100000 in
theorem ai_k132_10 : ai_ch1 ai_r132 10 0 (ai_d132.getD 10 []) = true := by decide +kernel
set_option maxRecDepth 100000 in
theorem ai_k132_11 : ai_ch1 ai_r132 11 0 (ai_d132.getD 11 []) = true := by decide +kernel
set_option maxRecDepth 100000 in
theorem ai_k132_12 : ai_ch1 ai_r132 12 0 (ai_d132.getD 12 []) = true := by decide +kernel
set_option maxRecDepth 100000 in
theorem ai_k132_13 : ai_ch1 ai_r132 13 0 (ai_d132.getD 13 []) = true := by decide +kernel
set_option maxRecDepth 100000 in
theorem ai_k132_14 : ai_ch1 ai_r132 14 0 (ai_d132.getD 14 []) = true := by decide +kernel
set_option maxRecDepth 100000 in
theorem ai_k132_15 : ai_ch1 ai_r132 15 0 (ai_d132.getD 15 []) = true := by decide +kernel
set_option maxRecDepth 100000 in
theorem ai_k132_16 : ai_ch1 ai_r132 16 0 (ai_d132.getD 16 []) = true := by decide +kernel
set_option maxRecDepth 100000 in
theorem ai_k132_17 : ai_ch1 ai_r132 17 0 (ai_d132.getD 17 []) = true := by decide +kernel
set_option maxRecDepth 100000 in
theorem ai_k132_18 : ai_ch1 ai_r132 18 0 (ai_d132.getD 18 []) = true := by decide +kernel
set_option maxRecDepth 100000 in
theorem ai_k132_19 : ai_ch1 ai_r132 19 0 (ai_d132.getD 19 []) = true := by decide +kernel
set_option maxRecDepth 100000 in
theorem ai_k132_20 : ai_ch1 ai_r132 20 0 (ai_d132.getD 20 []) = true := by decide +kernel
set_option maxRecDepth 100000 in
theorem ai_k132_21 : ai_ch1 ai_r132 21 0 (ai_d132.getD 21 []) = true := by decide +kernel
set_option maxRecDepth 100000 in
theorem ai_k132_22 : ai_ch1 ai_r132 22 0 (ai_d132.getD 22 []) = true := by decide +kernel
set_option maxRecDepth 100000 in
theorem ai_k132 : ai_chk ai_r132 = true := (ai_ch_cons ai_k132_0 (ai_ch_cons ai_k132_1 (ai_ch_cons ai_k132_2 (ai_ch_cons ai_k132_3 (ai_ch_cons ai_k132_4 (ai_ch_cons ai_k132_5 (ai_ch_cons ai_k132_6 (ai_ch_cons ai_k132_7 (ai_ch_cons ai_k132_8 (ai_ch_cons ai_k132_9 (ai_ch_cons ai_k132_10 (ai_ch_cons ai_k132_11 (ai_ch_cons ai_k132_12 (ai_ch_cons ai_k132_13 (ai_ch_cons ai_k132_14 (ai_ch_cons ai_k132_15 (ai_ch_cons ai_k132_16 (ai_ch_cons ai_k132_17 (ai_ch_cons ai_k132_18 (ai_ch_cons ai_k132_19 (ai_ch_cons ai_k132_20 (ai_ch_cons ai_k132_21 (ai_ch_cons ai_k132_22 (rfl))))))))))))))))))))))) : ai_ch ai_r132 0 ai_d132 = true)
set_option maxRecDepth 100000 in
theorem ai_k133_0 : ai_ch1 ai_r133 0 0 (ai_d133.getD 0 []) = true := by decide +kernel
set_option maxRecDepth 100000 in
theorem ai_k133_1 : ai_ch1 ai_r133 1 0 (ai_d133.getD 1 []) = true := by decide +kernel
set_option maxRecDepth 100000 in
theorem ai_k133_2 : ai_ch1 ai_r133 2 0 (ai_d133.getD 2 []) = true := by decide +kernel
set_option maxRecDepth 100000 in
theorem ai_k133_3 : ai_ch1 ai_r133 3 0 (ai_d133.getD 3 []) = true := by decide +kernel
set_option maxRecDepth 100000 in
theorem ai_k133_4 : ai_ch1 ai_r133 4 0 (ai_d133.getD 4 []) = true := by decide +kernel
set_option maxRecDepth 100000 in
theorem ai_k133_5 : ai_ch1 ai_r133 5 0 (ai_d133.getD 5 []) = true := by decide +kernel
set_option maxRecDepth 100000 in
theorem ai_k133_6 : ai_ch1 ai_r133 6 0 (ai_d133.getD 6 []) = true := by decide +kernel
set_option maxRecDepth 100000 in
theorem ai_k133_7 : ai_ch1 ai_r133 7 0 (ai_d133.getD 7 []) = true := by decide +kernel
set_option maxRecDepth 100000 in
theorem ai_k133_8 : ai_ch1 ai_r133 8 0 (ai_d133.getD 8 []) = true := by decide +kernel
set_option maxRecDepth 100000 in
theorem ai_k133_9 : ai_ch1 ai_r133 9 0 (ai_d133.getD 9 []) = true := by decide +kernel
set_option maxRecDepth 100000 in
theorem ai_k133_10 : ai_ch1 ai_r133 10 0 (ai_d133.getD 10 []) = true := by decide +kernel
set_option maxRecDepth 100000 in
theorem ai_k133_11 : ai_ch1 ai_r133 11 0 (ai_d133.getD 11 []) = true := by decide +kernel
set_option maxRecDepth 100000 in
theorem ai_k133 : ai_chk ai_r133 = true := (ai_ch_cons ai_k133_0 (ai_ch_cons ai_k133_1 (ai_ch_cons ai_k133_2 (ai_ch_cons ai_k133_3 (ai_ch_cons ai_k133_4 (ai_ch_cons ai_k133_5 (ai_ch_cons ai_k133_6 (ai_ch_cons ai_k133_7 (ai_ch_cons ai_k133_8 (ai_ch_cons ai_k133_9 (ai_ch_cons ai_k133_10 (ai_ch_cons ai_k133_11 (rfl)))))))))))) : ai_ch ai_r133 0 ai_d133 = true)
set_option maxRecDepth 100000 in
theorem ai_k134_0 : ai_ch1 ai_r134 0 0 (ai_d134.getD 0 []) = true := by decide +kernel
set_option maxRecDepth 100000 in
theorem ai_k134_1 : ai_ch1 ai_r134 1 0 (ai_d134.getD 1 []) = true := by decide +kernel
set_option maxRecDepth 100000 in
theorem ai_k134_2 : ai_ch1 ai_r134 2 0 (ai_d134.getD 2 []) = true := by decide +kernel
set_option maxRecDepth 100000 in
theorem ai_k134_3 : ai_ch1 ai_r134 3 0 (ai_d134.getD 3 []) = true := by decide +kernel
set_option maxRecDepth 100000 in
theorem ai_k134_4 : ai_ch1 ai_r134 4 0 (ai_d134.getD 4 []) = true := by decide +kernel
set_option maxRecDepth 100000 in
theorem ai_k134_5 : ai_ch1 ai_r134 5 0 (ai_d134.getD 5 []) = true := by decide +kernel
set_option maxRecDepth 100000 in
theorem ai_k134 : ai_chk ai_r134 = true := (ai_ch_cons ai_k134_0 (ai_ch_cons ai_k134_1 (ai_ch_cons ai_k134_2 (ai_ch_cons ai_k134_3 (ai_ch_cons ai_k134_4 (ai_ch_cons ai_k134_5 (rfl)))))) : ai_ch ai_r134 0 ai_d134 = true)
set_option maxRecDepth 100000 in
theorem ai_k135 : ai_chk ai_r135 = true := by decide +kernel
set_option maxRecDepth 100000 in
theorem ai_k136_0 : ai_ch1 ai_r136 0 0 (ai_d136.getD 0 []) = true := by decide +kernel
set_option maxRecDepth 100000 in
theorem ai_k136_1 : ai_ch1 ai_r136 1 0 (ai_d136.getD 1 []) = true := by decide +kernel
set_option maxRecDepth 100000 in
theorem ai_k136_2 : ai_ch1 ai_r136 2 0 (ai_d136.getD 2 []) = true := by decide +kernel
set_option maxRecDepth 100000 in
theorem ai_k136_3 : ai_ch1 ai_r136 3 0 (ai_d136.getD 3 []) = true := by decide +kernel
set_option maxRecDepth 100000 in
theorem ai_k136_4 : ai_ch1 ai_r136 4 0 (ai_d136.getD 4 []) = true := by decide +kernel
set_option maxRecDepth 100000 in
theorem ai_k136_5 : ai_ch1 ai_r136 5 0 (ai_d136.getD 5 []) = true := by decide +kernel
set_option maxRecDepth 100000 in
theorem ai_k136_6 : ai_ch1 ai_r136 6 0 (ai_d136.getD 6 []) = true := by decide +kernel
set_option maxRecDepth 100000 in
theorem ai_k136_7 : ai_ch1 ai_r136 7 0 (ai_d136.getD 7 []) = true := by decide +kernel
set_option maxRecDepth 100000 in
theorem ai_k136_8 : ai_ch1 ai_r136 8 0 (ai_d136.getD 8 []) = true := by decide +kernel
set_option maxRecDepth 100000 in
theorem ai_k136_9 : ai_ch1 ai_r136 9 0 (ai_d136.getD 9 []) = true := by decide +kernel
set_option maxRecDepth 100000 in
theorem ai_k136_10 : ai_ch1 ai_r136 10 0 (ai_d136.getD 10 []) = true := by decide +kernel
set_option maxRecDepth 100000 in
theorem ai_k136_11 : ai_ch1 ai_r136 11 0 (ai_d136.getD 11 []) = true := by decide +kernel
set_option maxRecDepth 100000 in
theorem ai_k136_12 : ai_ch1 ai_r136 12 0 (ai_d136.getD 12 []) = true := by decide +kernel
set_option maxRecDepth 100000 in
theorem ai_k136_13 : ai_ch1 ai_r136 13 0 (ai_d136.getD 13 []) = true := by decide +kernel
set_option maxRecDepth 100000 in
theorem ai_k136_14 : ai_ch1 ai_r136 14 0 (ai_d136.getD 14 []) = true := by decide +kernel
set_option maxRecDepth 100000 in
theorem ai_k136_15 : ai_ch1 ai_r136 15 0 (ai_d136.getD 15 []) = true := by decide +kernel
set_option maxRecDepth 100000 in
theorem ai_k136_16 : ai_ch1 ai_r136 16 0 (ai_d136.getD 16 []) = true := by decide +kernel
set_option maxRecDepth 100000 in
theorem ai_k136_17 : ai_ch1 ai_r136 17 0 (ai_d136.getD 17 []) = true := by decide +kernel
set_option maxRecDepth 100000 in
theorem ai_k136_18 : ai_ch1 ai_r136 18 0 (ai_d136.getD 18 []) = true := by decide +kernel
set_option maxRecDepth 100000 in
theorem ai_k136_19 : ai_ch1 ai_r136 19 0 (ai_d136.getD 19 []) = true := by decide +kernel
set_option maxRecDepth 100000 in
theorem ai_k136_20 : ai_ch1 ai_r136 20 0 (ai_d136.getD 20 []) = true := by decide +kernel
set_option maxRecDepth 100000 in
theorem ai_k136_21 : ai_ch1 ai_r136 21 0 (ai_d136.getD 21 []) = true := by decide +kernel
set_option maxRecDepth 100000 in
theorem ai_k136_22 : ai_ch1 ai_r136 22 0 (ai_d136.getD 22 []) = true := by decide +kernel
set_option maxRecDepth 100000 in
theorem ai_k136_23 : ai_ch1 ai_r136 23 0 (ai_d136.getD 23 []) = true := by decide +kernel
set_option maxRecDepth 100000 in
theorem ai_k136_24 : ai_ch1 ai_r136 24 0 (ai_d136.getD 24 []) = true := by decide +kernel
set_option maxRecDepth 100000 in
theorem ai_k136_25 : ai_ch1 ai_r136 25 0 (ai_d136.getD 25 []) = true := by decide +kernel
set_option maxRecDepth 100000 in
theorem ai_k136_26 : ai_ch1 ai_r136 26 0 (ai_d136.getD 26 []) = true := by decide +kernel
set_option maxRecDepth 100000 in
theorem ai_k136_27 : ai_ch1 ai_r136 27 0 (ai_d136.getD 27 []) = true := by decide +kernel
set_option maxRecDepth 100000 in
theorem ai_k136_28 : ai_ch1 ai_r136 28 0 (ai_d136.getD 28 []) = true := by decide +kernel
set_option maxRecDepth 100000 in
theorem ai_k136_29 : ai_ch1 ai_r136 29 0 (ai_d136.getD 29 []) = true := by decide +kernel
set_option maxRecDepth 100000 in
theorem ai_k136 : ai_chk ai_r136 = true := (ai_ch_cons ai_k136_0 (ai_ch_cons ai_k136_1 (ai_ch_cons ai_k136_2 (ai_ch_cons ai_k136_3 (ai_ch_cons ai_k136_4 (ai_ch_cons ai_k136_5 (ai_ch_cons ai_k136_6 (ai_ch_cons ai_k136_7 (ai_ch_cons ai_k136_8 (ai_ch_cons ai_k136_9 (ai_ch_cons ai_k136_10 (ai_ch_cons ai_k136_11 (ai_ch_cons ai_k136_12 (ai_ch_cons ai_k136_13 (ai_ch_cons ai_k136_14 (ai_ch_cons ai_k136_15 (ai_ch_cons ai_k136_16 (ai_ch_cons ai_k136_17 (ai_ch_cons ai_k136_18 (ai_ch_cons ai_k136_19 (ai_ch_cons ai_k136_20 (ai_ch_cons ai_k136_21 (ai_ch_cons ai_k136_22 (ai_ch_cons ai_k136_23 (ai_ch_cons ai_k136_24 (ai_ch_cons ai_k136_25 (ai_ch_cons ai_k136_26 (ai_ch_cons ai_k136_27 (ai_ch_cons ai_k136_28 (ai_ch_cons ai_k136_29 (rfl)))))))))))))))))))))))))))))) : ai_ch ai_r136 0 ai_d136 = true)
set_option maxRecDepth 100000 in
theorem ai_k137_0 : ai_ch1 ai_r137 0 0 (ai_d137.getD 0 []) = true := by decide +kernel
set_option maxRecDepth 100000 in
theorem ai_k137_1 : ai_ch1 ai_r137 1 0 (ai_d137.getD 1 []) = true := by decide +kernel
set_option maxRecDepth 100000 in
theorem ai_k137_2 : ai_ch1 ai_r137 2 0 (ai_d137.getD 2 []) = true := by decide +kernel
set_option maxRecDepth 100000 in
theorem ai_k137_3 : ai_ch1 ai_r137 3 0 (ai_d137.getD 3 []) = true := by decide +kernel
set_option maxRecDepth 100000 in
theorem ai_k137_4 : ai_ch1 ai_r137 4 0 (ai_d137.getD 4 []) = true := by decide +kernel
set_option maxRecDepth 100000 in
theorem ai_k137_5 : ai_ch1 ai_r137 5 0 (ai_d137.getD 5 []) = true := by decide +kernel
set_option maxRecDepth 100000 in
theorem ai_k137_6 : ai_ch1 ai_r137 6 0 (ai_d137.getD 6 []) = true := by decide +kernel
set_option maxRecDepth 100000 in
theorem ai_k137_7 : ai_ch1 ai_r137 7 0 (ai_d137.getD 7 []) = true := by decide +kernel
set_option maxRecDepth 100000 in
theorem ai_k137_8 : ai_ch1 ai_r137 8 0 (ai_d137.getD 8 []) = true := by decide +kernel
set_option maxRecDepth 100000 in
theorem ai_k137_9 : ai_ch1 ai_r137 9 0 (ai_d137.getD 9 []) = true := by decide +kernel
set_option maxRecDepth 100000 in
theorem ai_k137_10 : ai_ch1 ai_r137 10 0 (ai_d137.getD 10 []) = true := by decide +kernel
set_option maxRecDepth 100000 in
theorem ai_k137_11 : ai_ch1 ai_r137 11 0 (ai_d137.getD 11 []) = true := by decide +kernel
set_option maxRecDepth 100000 in
theorem ai_k137_12 : ai_ch1 ai_r137 12 0 (ai_d137.getD 12 []) = true := by decide +kernel
set_option maxRecDepth 100000 in
theorem ai_k137 : ai_chk ai_r137 = true := (ai_ch_cons ai_k137_0 (ai_ch_cons ai_k137_1 (ai_ch_cons ai_k137_2 (ai_ch_cons ai_k137_3 (ai_ch_cons ai_k137_4 (ai_ch_cons ai_k137_5 (ai_ch_cons ai_k137_6 (ai_ch_cons ai_k137_7 (ai_ch_cons ai_k137_8 (ai_ch_cons ai_k137_9 (ai_ch_cons ai_k137_10 (ai_ch_cons ai_k137_11 (ai_ch_cons ai_k137_12 (rfl))))))))))))) : ai_ch ai_r137 0 ai_d137 = true)
set_option maxRecDepth 100000 in
theorem ai_k138 : ai_chk ai_r138 = true := by decide +kernel
set_option maxRecDepth 100000 in
theorem ai_k139 : ai_chk ai_r139 = true := by decide +kernel
set_option maxRecDepth 100000 in
theorem ai_k140 : ai_chk ai_r140 = true := by decide +kernel
set_option maxRecDepth 100000 in
theorem ai_k141_0 : ai_ch1 ai_r141 0 0 (ai_d141.getD 0 []) = true := by decide +kernel
set_option maxRecDepth 100000 in
theorem ai_k141_1 : ai_ch1 ai_r141 1 0 (ai_d141.getD 1 []) = true := by decide +kernel
set_option maxRecDepth 100000 in
theorem ai_k141_2 : ai_ch1 ai_r141 2 0 (ai_d141.getD 2 []) = true := by decide +kernel
set_option maxRecDepth 100000 in
theorem ai_k141_3 : ai_ch1 ai_r141 3 0 (ai_d141.getD 3 []) = true := by decide +kernel
set_option maxRecDepth 100000 in
theorem ai_k141_4 : ai_ch1 ai_r141 4 0 (ai_d141.getD 4 []) = true := by decide +kernel
set_option maxRecDepth 100000 in
theorem ai_k141_5 : ai_ch1 ai_r141 5 0 (ai_d141.getD 5 []) = true := by decide +kernel
set_option maxRecDepth 100000 in
theorem ai_k141_6 : ai_ch1 ai_r141 6 0 (ai_d141.getD 6 []) = true := by decide +kernel
set_option maxRecDepth 100000 in
theorem ai_k141_7 : ai_ch1 ai_r141 7 0 (ai_d141.getD 7 []) = true := by decide +kernel
set_option maxRecDepth 100000 in
theorem ai_k141_8 : ai_ch1 ai_r141 8 0 (ai_d141.getD 8 []) = true := by decide +kernel
set_option maxRecDepth 100000 in
theorem ai_k141 : ai_chk ai_r141 = true := (ai_ch_cons ai_k141_0 (ai_ch_cons ai_k141_1 (ai_ch_cons ai_k141_2 (ai_ch_cons ai_k141_3 (ai_ch_cons ai_k141_4 (ai_ch_cons ai_k141_5 (ai_ch_cons ai_k141_6 (ai_ch_cons ai_k141_7 (ai_ch_cons ai_k141_8 (rfl))))))))) : ai_ch ai_r141 0 ai_d141 = true)
set_option maxRecDepth 100000 in
theorem ai_k142 : ai_chk ai_r142 = true := by decide +kernel
set_option maxRecDepth 100000 in
theorem ai_k143_0 : ai_ch1 ai_r143 0 0 (ai_d143.getD 0 []) = true := by decide +kernel
set_option maxRecDepth 100000 in
theorem ai_k143_1 : ai_ch1 ai_r143 1 0 (ai_d143.getD 1 []) = true := by decide +kernel
set_option maxRecDepth 100000 in
theorem ai_k143_2 : ai_ch1 ai_r143 2 0 (ai_d143.getD 2 []) = true := by decide +kernel
set_option maxRecDepth 100000 in
theorem ai_k143_3 : ai_ch1 ai_r143 3 0 (ai_d143.getD 3 []) = true := by decide +kernel
set_option maxRecDepth 100000 in
theorem ai_k143_4 : ai_ch1 ai_r143 4 0 (ai_d143.getD 4 []) = true := by decide +kernel
set_option maxRecDepth 100000 in
theorem ai_k143_5 : ai_ch1 ai_r143 5 0 (ai_d143.getD 5 []) = true := by decide +kernel
set_option maxRecDepth 100000 in
theorem ai_k143_6 : ai_ch1 ai_r143 6 0 (ai_d143.getD 6 []) = true := by decide +kernel
set_option maxRecDepth 100000 in
theorem ai_k143_7 : ai_ch1 ai_r143 7 0 (ai_d143.getD 7 []) = true := by decide +kernel
set_option maxRecDepth 100000 in
theorem ai_k143_8 : ai_ch1 ai_r143 8 0 (ai_d143.getD 8 []) = true := by decide +kernel
set_option maxRecDepth 100000 in
theorem ai_k143_9 : ai_ch1 ai_r143 9 0 (ai_d143.getD 9 []) = true := by decide +kernel
set_option maxRecDepth 100000 in
theorem ai_k143_10 : ai_ch1 ai_r143 10 0 (ai_d143.getD 10 []) = true := by decide +kernel
set_option maxRecDepth 100000 in
theorem ai_k143_11 : ai_ch1 ai_r143 11 0 (ai_d143.getD 11 []) = true := by decide +kernel
set_option maxRecDepth 100000 in
theorem ai_k143_12 : ai_ch1 ai_r143 12 0 (ai_d143.getD 12 []) = true := by decide +kernel
set_option maxRecDepth 100000 in
theorem ai_k143_13 : ai_ch1 ai_r143 13 0 (ai_d143.getD 13 []) = true := by decide +kernel
set_option maxRecDepth 100000 in
theorem ai_k143_14 : ai_ch1 ai_r143 14 0 (ai_d143.getD 14 []) = true := by decide +kernel
set_option maxRecDepth 100000 in
theorem ai_k143_15 : ai_ch1 ai_r143 15 0 (ai_d143.getD 15 []) = true := by decide +kernel
set_option maxRecDepth 100000 in
theorem ai_k143_16 : ai_ch1 ai_r143 16 0 (ai_d143.getD 16 []) = true := by decide +kernel
set_option maxRecDepth 100000 in
theorem ai_k143_17 : ai_ch1 ai_r143 17 0 (ai_d143.getD 17 []) = true := by decide +kernel
set_option maxRecDepth 100000 in
theorem ai_k143_18 : ai_ch1 ai_r143 18 0 (ai_d143.getD 18 []) = true := by decide +kernel
set_option maxRecDepth 100000 in
theorem ai_k143_19 : ai_ch1 ai_r143 19 0 (ai_d143.getD 19 []) = true := by decide +kernel
set_option maxRecDepth 100000 in
theorem ai_k143_20 : ai_ch1 ai_r143 20 0 (ai_d143.getD 20 []) = true := by decide +kernel
set_option maxRecDepth 100000 in
theorem ai_k143_21 : ai_ch1 ai_r143 21 0 (ai_d143.getD 21 []) = true := by decide +kernel
set_option maxRecDepth 100000 in
theorem ai_k143_22 : ai_ch1 ai_r143 22 0 (ai_d143.getD 22 []) = true := by decide +kernel
set_option maxRecDepth 100000 in
theorem ai_k143_23 : ai_ch1 ai_r143 23 0 (ai_d143.getD 23 []) = true := by decide +kernel
set_option maxRecDepth 100000 in
theorem ai_k143_24 : ai_ch1 ai_r143 24 0 (ai_d143.getD 24 []) = true := by decide +kernel
set_option maxRecDepth 100000 in
theorem ai_k143_25 : ai_ch1 ai_r143 25 0 (ai_d143.getD 25 []) = true := by decide +kernel
set_option maxRecDepth 100000 in
theorem ai_k143_26 : ai_ch1 ai_r143 26 0 (ai_d143.getD 26 []) = true := by decide +kernel
set_option maxRecDepth 100000 in
theorem ai_k143_27 : ai_ch1 ai_r143 27 0 (ai_d143.getD 27 []) = true := by decide +kernel
set_option maxRecDepth 100000 in
theorem ai_k143_28 : ai_ch1 ai_r143 28 0 (ai_d143.getD 28 []) = true := by decide +kernel
set_option maxRecDepth 100000 in
theorem ai_k143_29 : ai_ch1 ai_r143 29 0 (ai_d143.getD 29 []) = true := by decide +kernel
set_option maxRecDepth 100000 in
theorem ai_k143_30 : ai_ch1 ai_r143 30 0 (ai_d143.getD 30 []) = true := by decide +kernel
set_option maxRecDepth 100000 in
theorem ai_k143_31 : ai_ch1 ai_r143 31 0 (ai_d143.getD 31 []) = true := by decide +kernel
set_option maxRecDepth 100000 in
theorem ai_k143_32 : ai_ch1 ai_r143 32 0 (ai_d143.getD 32 []) = true := by decide +kernel
set_option maxRecDepth 100000 in
theorem ai_k143_33 : ai_ch1 ai_r143 33 0 (ai_d143.getD 33 []) = true := by decide +kernel
set_option maxRecDepth 100000 in
theorem ai_k143_34 : ai_ch1 ai_r143 34 0 (ai_d143.getD 34 []) = true := by decide +kernel
set_option maxRecDepth 100000 in
theorem ai_k143_35 : ai_ch1 ai_r143 35 0 (ai_d143.getD 35 []) = true := by decide +kernel
set_option maxRecDepth 100000 in
theorem ai_k143_36 : ai_ch1 ai_r143 36 0 (ai_d143.getD 36 []) = true := by decide +kernel
set_option maxRecDepth 100000 in
theorem ai_k143_37 : ai_ch1 ai_r143 37 0 (ai_d143.getD 37 []) = true := by decide +kernel
set_option maxRecDepth 100000 in
theorem ai_k143_38 : ai_ch1 ai_r143 38 0 (ai_d143.getD 38 []) = true := by decide +kernel
set_option maxRecDepth 100000 in
theorem ai_k143_39 : ai_ch1 ai_r143 39 0 (ai_d143.getD 39 []) = true := by decide +kernel
set_option maxRecDepth 100000 in
theorem ai_k143_40 : ai_ch1 ai_r143 40 0 (ai_d143.getD 40 []) = true := by decide +kernel
set_option maxRecDepth 100000 in
theorem ai_k143 : ai_chk ai_r143 = true := (ai_ch_cons ai_k143_0 (ai_ch_cons ai_k143_1 (ai_ch_cons ai_k143_2 (ai_ch_cons ai_k143_3 (ai_ch_cons ai_k143_4 (ai_ch_cons ai_k143_5 (ai_ch_cons ai_k143_6 (ai_ch_cons ai_k143_7 (ai_ch_cons ai_k143_8 (ai_ch_cons ai_k143_9 (ai_ch_cons ai_k143_10 (ai_ch_cons ai_k143_11 (ai_ch_cons ai_k143_12 (ai_ch_cons ai_k143_13 (ai_ch_cons ai_k143_14 (ai_ch_cons ai_k143_15 (ai_ch_cons ai_k143_16 (ai_ch_cons ai_k143_17 (ai_ch_cons ai_k143_18 (ai_ch_cons ai_k143_19 (ai_ch_cons ai_k143_20 (ai_ch_cons ai_k143_21 (ai_ch_cons ai_k143_22 (ai_ch_cons ai_k143_23 (ai_ch_cons ai_k143_24 (ai_ch_cons ai_k143_25 (ai_ch_cons ai_k143_26 (ai_ch_cons ai_k143_27 (ai_ch_cons ai_k143_28 (ai_ch_cons ai_k143_29 (ai_ch_cons ai_k143_30 (ai_ch_cons ai_k143_31 (ai_ch_cons ai_k143_32 (ai_ch_cons ai_k143_33 (ai_ch_cons ai_k143_34 (ai_ch_cons ai_k143_35 (ai_ch_cons ai_k143_36 (ai_ch_cons ai_k143_37 (ai_ch_cons ai_k143_38 (ai_ch_cons ai_k143_39 (ai_ch_cons ai_k143_40 (rfl))))))))))))))))))))))))))))))))))))))))) : ai_ch ai_r143 0 ai_d143 = true)
end
section
theorem ai_kg0 : ∀ r ∈ ([ai_r0, ai_r1, ai_r2, ai_r3, ai_r4, ai_r5, ai_r6, ai_r7, ai_r8, ai_r9, ai_r10, ai_r11, ai_r12, ai_r13, ai_r14, ai_r15, ai_r16, ai_r17, ai_r18, ai_r19, ai_r20, ai_r21, ai_r22, ai_r23] : List ai_R), ai_chk r = true := List.forall_mem_cons.mpr ⟨ai_k0, List.forall_mem_cons.mpr ⟨ai_k1, List.forall_mem_cons.mpr ⟨ai_k2, List.forall_mem_cons.mpr ⟨ai_k3, List.forall_mem_cons.mpr ⟨ai_k4, List.forall_mem_cons.mpr ⟨ai_k5, List.forall_mem_cons.mpr ⟨ai_k6, List.forall_mem_cons.mpr ⟨ai_k7, List.forall_mem_cons.mpr ⟨ai_k8, List.forall_mem_cons.mpr ⟨ai_k9, List.forall_mem_cons.mpr ⟨ai_k10, List.forall_mem_cons.mpr ⟨ai_k11, List.forall_mem_cons.mpr ⟨ai_k12, List.forall_mem_cons.mpr ⟨ai_k13, List.forall_mem_cons.mpr ⟨ai_k14, List.forall_mem_cons.mpr ⟨ai_k15, List.forall_mem_cons.mpr ⟨ai_k16, List.forall_mem_cons.mpr ⟨ai_k17, List.forall_mem_cons.mpr ⟨ai_k18, List.forall_mem_cons.mpr ⟨ai_k19, List.forall_mem_cons.mpr ⟨ai_k20, List.forall_mem_cons.mpr ⟨ai_k21, List.forall_mem_cons.mpr ⟨ai_k22, List.forall_mem_cons.mpr ⟨ai_k23, fun _ h => absurd h List.not_mem_nil⟩⟩⟩⟩⟩⟩⟩⟩⟩⟩⟩⟩⟩⟩⟩⟩⟩⟩⟩⟩⟩⟩⟩⟩
theorem ai_kg1 : ∀ r ∈ ([ai_r24, ai_r25, ai_r26, ai_r27, ai_r28, ai_r29, ai_r30, ai_r31, ai_r32, ai_r33, ai_r34, ai_r35, ai_r36, ai_r37, ai_r38, ai_r39, ai_r40, ai_r41, ai_r42, ai_r43, ai_r44, ai_r45, ai_r46, ai_r47] : List ai_R), ai_chk r = true := List.forall_mem_cons.mpr ⟨ai_k24, List.forall_mem_cons.mpr ⟨ai_k25, List.forall_mem_cons.mpr ⟨ai_k26, List.forall_mem_cons.mpr ⟨ai_k27, List.forall_mem_cons.mpr ⟨ai_k28, List.forall_mem_cons.mpr ⟨ai_k29, List.forall_mem_cons.mpr ⟨ai_k30, List.forall_mem_cons.mpr ⟨ai_k31, List.forall_mem_cons.mpr ⟨ai_k32, List.forall_mem_cons.mpr ⟨ai_k33, List.forall_mem_cons.mpr ⟨ai_k34, List.forall_mem_cons.mpr ⟨ai_k35, List.forall_mem_cons.mpr ⟨ai_k36, List.forall_mem_cons.mpr ⟨ai_k37, List.forall_mem_cons.mpr ⟨ai_k38, List.forall_mem_cons.mpr ⟨ai_k39, List.forall_mem_cons.mpr ⟨ai_k40, List.forall_mem_cons.mpr ⟨ai_k41, List.forall_mem_cons.mpr ⟨ai_k42, List.forall_mem_cons.mpr ⟨ai_k43, List.forall_mem_cons.mpr ⟨ai_k44, List.forall_mem_cons.mpr ⟨ai_k45, List.forall_mem_cons.mpr ⟨ai_k46, List.forall_mem_cons.mpr ⟨ai_k47, fun _ h => absurd h List.not_mem_nil⟩⟩⟩⟩⟩⟩⟩⟩⟩⟩⟩⟩⟩⟩⟩⟩⟩⟩⟩⟩⟩⟩⟩⟩
theorem ai_kg2 : ∀ r ∈ ([ai_r48, ai_r49, ai_r50, ai_r51, ai_r52, ai_r53, ai_r54, ai_r55, ai_r56, ai_r57, ai_r58, ai_r59, ai_r60, ai_r61, ai_r62, ai_r63, ai_r64, ai_r65, ai_r66, ai_r67, ai_r68, ai_r69, ai_r70, ai_r71] : List ai_R), ai_chk r = true := List.forall_mem_cons.mpr ⟨ai_k48, List.forall_mem_cons.mpr ⟨ai_k49, List.forall_mem_cons.mpr ⟨ai_k50, List.forall_mem_cons.mpr ⟨ai_k51, List.forall_mem_cons.mpr ⟨ai_k52, List.forall_mem_cons.mpr ⟨ai_k53, List.forall_mem_cons.mpr ⟨ai_k54, List.forall_mem_cons.mpr ⟨ai_k55, List.forall_mem_cons.mpr ⟨ai_k56, List.forall_mem_cons.mpr ⟨ai_k57, List.forall_mem_cons.mpr ⟨ai_k58, List.forall_mem_cons.mpr ⟨ai_k59, List.forall_mem_cons.mpr ⟨ai_k60, List.forall_mem_cons.mpr ⟨ai_k61, List.forall_mem_cons.mpr ⟨ai_k62, List.forall_mem_cons.mpr ⟨ai_k63, List.forall_mem_cons.mpr ⟨ai_k64, List.forall_mem_cons.mpr ⟨ai_k65, List.forall_mem_cons.mpr ⟨ai_k66, List.forall_mem_cons.mpr ⟨ai_k67, List.forall_mem_cons.mpr ⟨ai_k68, List.forall_mem_cons.mpr ⟨ai_k69, List.forall_mem_cons.mpr ⟨ai_k70, List.forall_mem_cons.mpr ⟨ai_k71, fun _ h => absurd h List.not_mem_nil⟩⟩⟩⟩⟩⟩⟩⟩⟩⟩⟩⟩⟩⟩⟩⟩⟩⟩⟩⟩⟩⟩⟩⟩
theorem ai_kg3 : ∀ r ∈ ([ai_r72, ai_r73, ai_r74, ai_r75, ai_r76, ai_r77, ai_r78, ai_r79, ai_r80, ai_r81, ai_r82, ai_r83, ai_r84, ai_r85, ai_r86, ai_r87, ai_r88, ai_r89, ai_r90, ai_r91, ai_r92, ai_r93, ai_r94, ai_r95] : List ai_R), ai_chk r = true := List.forall_mem_cons.mpr ⟨ai_k72, List.forall_mem_cons.mpr ⟨ai_k73, List.forall_mem_cons.mpr ⟨ai_k74, List.forall_mem_cons.mpr ⟨ai_k75, List.forall_mem_cons.mpr ⟨ai_k76, List.forall_mem_cons.mpr ⟨ai_k77, List.forall_mem_cons.mpr ⟨ai_k78, List.forall_mem_cons.mpr ⟨ai_k79, List.forall_mem_cons.mpr ⟨ai_k80, List.forall_mem_cons.mpr ⟨ai_k81, List.forall_mem_cons.mpr ⟨ai_k82, List.forall_mem_cons.mpr ⟨ai_k83, List.forall_mem_cons.mpr ⟨ai_k84, List.forall_mem_cons.mpr ⟨ai_k85, List.forall_mem_cons.mpr ⟨ai_k86, List.forall_mem_cons.mpr ⟨ai_k87, List.forall_mem_cons.mpr ⟨ai_k88, List.forall_mem_cons.mpr ⟨ai_k89, List.forall_mem_cons.mpr ⟨ai_k90, List.forall_mem_cons.mpr ⟨ai_k91, List.forall_mem_cons.mpr ⟨ai_k92, List.forall_mem_cons.mpr ⟨ai_k93, List.forall_mem_cons.mpr ⟨ai_k94, List.forall_mem_cons.mpr ⟨ai_k95, fun _ h => absurd h List.not_mem_nil⟩⟩⟩⟩⟩⟩⟩⟩⟩⟩⟩⟩⟩⟩⟩⟩⟩⟩⟩⟩⟩⟩⟩⟩
theorem ai_kg4 : ∀ r ∈ ([ai_r96, ai_r97, ai_r98, ai_r99, ai_r100, ai_r101, ai_r102, ai_r103, ai_r104, ai_r105, ai_r106, ai_r107, ai_r108, ai_r109, ai_r110, ai_r111, ai_r112, ai_r113, ai_r114, ai_r115, ai_r116, ai_r117, ai_r118, ai_r119] : List ai_R), ai_chk r = true := List.forall_mem_cons.mpr ⟨ai_k96, List.forall_mem_cons.mpr ⟨ai_k97, List.forall_mem_cons.mpr ⟨ai_k98, List.forall_mem_cons.mpr ⟨ai_k99, List.forall_mem_cons.mpr ⟨ai_k100, List.forall_mem_cons.mpr ⟨ai_k101, List.forall_mem_cons.mpr ⟨ai_k102, List.forall_mem_cons.mpr ⟨ai_k103, List.forall_mem_cons.mpr ⟨ai_k104, List.forall_mem_cons.mpr ⟨ai_k105, List.forall_mem_cons.mpr ⟨ai_k106, List.forall_mem_cons.mpr ⟨ai_k107, List.forall_mem_cons.mpr ⟨ai_k108, List.forall_mem_cons.mpr ⟨ai_k109, List.forall_mem_cons.mpr ⟨ai_k110, List.forall_mem_cons.mpr ⟨ai_k111, List.forall_mem_cons.mpr ⟨ai_k112, List.forall_mem_cons.mpr ⟨ai_k113, List.forall_mem_cons.mpr ⟨ai_k114, List.forall_mem_cons.mpr ⟨ai_k115, List.forall_mem_cons.mpr ⟨ai_k116, List.forall_mem_cons.mpr ⟨ai_k117, List.forall_mem_cons.mpr ⟨ai_k118, List.forall_mem_cons.mpr ⟨ai_k119, fun _ h => absurd h List.not_mem_nil⟩⟩⟩⟩⟩⟩⟩⟩⟩⟩⟩⟩⟩⟩⟩⟩⟩⟩⟩⟩⟩⟩⟩⟩
theorem ai_kg5 : ∀ r ∈ ([ai_r120, ai_r121, ai_r122, ai_r123, ai_r124, ai_r125, ai_r126, ai_r127, ai_r128, ai_r129, ai_r130, ai_r131, ai_r132, ai_r133, ai_r134, ai_r135, ai_r136, ai_r137, ai_r138, ai_r139, ai_r140, ai_r141, ai_r142, ai_r143] : List ai_R), ai_chk r = true := List.forall_mem_cons.mpr ⟨ai_k120, List.forall_mem_cons.mpr ⟨ai_k121, List.forall_mem_cons.mpr ⟨ai_k122, List.forall_mem_cons.mpr ⟨ai_k123, List.forall_mem_cons.mpr ⟨ai_k124, List.forall_mem_cons.mpr ⟨ai_k125, List.forall_mem_cons.mpr ⟨ai_k126, List.forall_mem_cons.mpr ⟨ai_k127, List.forall_mem_cons.mpr ⟨ai_k128, List.forall_mem_cons.mpr ⟨ai_k129, List.forall_mem_cons.mpr ⟨ai_k130, List.forall_mem_cons.mpr ⟨ai_k131, List.forall_mem_cons.mpr ⟨ai_k132, List.forall_mem_cons.mpr ⟨ai_k133, List.forall_mem_cons.mpr ⟨ai_k134, List.forall_mem_cons.mpr ⟨ai_k135, List.forall_mem_cons.mpr ⟨ai_k136, List.forall_mem_cons.mpr ⟨ai_k137, List.forall_mem_cons.mpr ⟨ai_k138, List.forall_mem_cons.mpr ⟨ai_k139, List.forall_mem_cons.mpr ⟨ai_k140, List.forall_mem_cons.mpr ⟨ai_k141, List.forall_mem_cons.mpr ⟨ai_k142, List.forall_mem_cons.mpr ⟨ai_k143, fun _ h => absurd h List.not_mem_nil⟩⟩⟩⟩⟩⟩⟩⟩⟩⟩⟩⟩⟩⟩⟩⟩⟩⟩⟩⟩⟩⟩⟩⟩
theorem ai_kall : ∀ r ∈ ai_ms, ai_chk r = true := by
  show ∀ r ∈ ([ai_r0, ai_r1, ai_r2, ai_r3, ai_r4, ai_r5, ai_r6, ai_r7, ai_r8, ai_r9, ai_r10, ai_r11, ai_r12, ai_r13, ai_r14, ai_r15, ai_r16, ai_r17, ai_r18, ai_r19, ai_r20, ai_r21, ai_r22, ai_r23] : List ai_R) ++ (([ai_r24, ai_r25, ai_r26, ai_r27, ai_r28, ai_r29, ai_r30, ai_r31, ai_r32, ai_r33, ai_r34, ai_r35, ai_r36, ai_r37, ai_r38, ai_r39, ai_r40, ai_r41, ai_r42, ai_r43, ai_r44, ai_r45, ai_r46, ai_r47] : List ai_R) ++ (([ai_r48, ai_r49, ai_r50, ai_r51, ai_r52, ai_r53, ai_r54, ai_r55, ai_r56, ai_r57, ai_r58, ai_r59, ai_r60, ai_r61, ai_r62, ai_r63, ai_r64, ai_r65, ai_r66, ai_r67, ai_r68, ai_r69, ai_r70, ai_r71] : List ai_R) ++ (([ai_r72, ai_r73, ai_r74, ai_r75, ai_r76, ai_r77, ai_r78, ai_r79, ai_r80, ai_r81, ai_r82, ai_r83, ai_r84, ai_r85, ai_r86, ai_r87, ai_r88, ai_r89, ai_r90, ai_r91, ai_r92, ai_r93, ai_r94, ai_r95] : List ai_R) ++ (([ai_r96, ai_r97, ai_r98, ai_r99, ai_r100, ai_r101, ai_r102, ai_r103, ai_r104, ai_r105, ai_r106, ai_r107, ai_r108, ai_r109, ai_r110, ai_r111, ai_r112, ai_r113, ai_r114, ai_r115, ai_r116, ai_r117, ai_r118, ai_r119] : List ai_R) ++ ([ai_r120, ai_r121, ai_r122, ai_r123, ai_r124, ai_r125, ai_r126, ai_r127, ai_r128, ai_r129, ai_r130, ai_r131, ai_r132, ai_r133, ai_r134, ai_r135, ai_r136, ai_r137, ai_r138, ai_r139, ai_r140, ai_r141, ai_r142, ai_r143]))))), ai_chk r = true
  exact List.forall_mem_append.mpr ⟨ai_kg0, List.forall_mem_append.mpr ⟨ai_kg1, List.forall_mem_append.mpr ⟨ai_kg2, List.forall_mem_append.mpr ⟨ai_kg3, List.forall_mem_append.mpr ⟨ai_kg4, ai_kg5⟩⟩⟩⟩⟩
end
section
set_option maxRecDepth 100000 in
theorem ai_c0 : lw_tbl[160]? = some (Cond.code ai_r0.2.1 ai_r0.2.2.1 ai_r0.2.2.2.1 ai_r0.2.2.2.2.1) := by decide +kernel
set_option maxRecDepth 100000 in
theorem ai_c1 : lw_tbl[277]? = some (Cond.code ai_r1.2.1 ai_r1.2.2.1 ai_r1.2.2.2.1 ai_r1.2.2.2.2.1) := by decide +kernel
set_option maxRecDepth 100000 in
theorem ai_c2 : lw_tbl[273]? = some (Cond.code ai_r2.2.1 ai_r2.2.2.1 ai_r2.2.2.2.1 ai_r2.2.2.2.2.1) := by decide +kernel
set_option maxRecDepth 100000 in
theorem ai_c3 : lw_tbl[222]? = some (Cond.code ai_r3.2.1 ai_r3.2.2.1 ai_r3.2.2.2.1 ai_r3.2.2.2.2.1) := by decide +kernel
set_option maxRecDepth 100000 in
theorem ai_c4 : lw_tbl[300]? = some (Cond.code ai_r4.2.1 ai_r4.2.2.1 ai_r4.2.2.2.1 ai_r4.2.2.2.2.1) := by decide +kernel
set_option maxRecDepth 100000 in
theorem ai_c5 : lw_tbl[226]? = some (Cond.code ai_r5.2.1 ai_r5.2.2.1 ai_r5.2.2.2.1 ai_r5.2.2.2.2.1) := by decide +kernel
set_option maxRecDepth 100000 in
theorem ai_c6 : lw_tbl[230]? = some (Cond.code ai_r6.2.1 ai_r6.2.2.1 ai_r6.2.2.2.1 ai_r6.2.2.2.2.1) := by decide +kernel
set_option maxRecDepth 100000 in
theorem ai_c7 : lw_tbl[239]? = some (Cond.code ai_r7.2.1 ai_r7.2.2.1 ai_r7.2.2.2.1 ai_r7.2.2.2.2.1) := by decide +kernel
set_option maxRecDepth 100000 in
theorem ai_c8 : lw_tbl[243]? = some (Cond.code ai_r8.2.1 ai_r8.2.2.1 ai_r8.2.2.2.1 ai_r8.2.2.2.2.1) := by decide +kernel
set_option maxRecDepth 100000 in
theorem ai_c9 : lw_tbl[341]? = some (Cond.code ai_r9.2.1 ai_r9.2.2.1 ai_r9.2.2.2.1 ai_r9.2.2.2.2.1) := by decide +kernel
set_option maxRecDepth 100000 in
theorem ai_c10 : lw_tbl[363]? = some (Cond.code ai_r10.2.1 ai_r10.2.2.1 ai_r10.2.2.2.1 ai_r10.2.2.2.2.1) := by decide +kernel
set_option maxRecDepth 100000 in
theorem ai_c11 : lw_tbl[368]? = some (Cond.code ai_r11.2.1 ai_r11.2.2.1 ai_r11.2.2.2.1 ai_r11.2.2.2.2.1) := by decide +kernel
set_option maxRecDepth 100000 in
theorem ai_c12 : lw_tbl[548]? = some (Cond.code ai_r12.2.1 ai_r12.2.2.1 ai_r12.2.2.2.1 ai_r12.2.2.2.2.1) := by decide +kernel
set_option maxRecDepth 100000 in
theorem ai_c13 : lw_tbl[556]? = some (Cond.code ai_r13.2.1 ai_r13.2.2.1 ai_r13.2.2.2.1 ai_r13.2.2.2.2.1) := by decide +kernel
set_option maxRecDepth 100000 in
theorem ai_c14 : lw_tbl[552]? = some (Cond.code ai_r14.2.1 ai_r14.2.2.1 ai_r14.2.2.2.1 ai_r14.2.2.2.2.1) := by decide +kernel
set_option maxRecDepth 100000 in
theorem ai_c15 : lw_tbl[79]? = some (Cond.code ai_r15.2.1 ai_r15.2.2.1 ai_r15.2.2.2.1 ai_r15.2.2.2.2.1) := by decide +kernel
set_option maxRecDepth 100000 in
theorem ai_c16 : lw_tbl[281]? = some (Cond.code ai_r16.2.1 ai_r16.2.2.1 ai_r16.2.2.2.1 ai_r16.2.2.2.2.1) := by decide +kernel
set_option maxRecDepth 100000 in
theorem ai_c17 : lw_tbl[285]? = some (Cond.code ai_r17.2.1 ai_r17.2.2.1 ai_r17.2.2.2.1 ai_r17.2.2.2.2.1) := by decide +kernel
set_option maxRecDepth 100000 in
theorem ai_c18 : lw_tbl[389]? = some (Cond.code ai_r18.2.1 ai_r18.2.2.1 ai_r18.2.2.2.1 ai_r18.2.2.2.2.1) := by decide +kernel
set_option maxRecDepth 100000 in
theorem ai_c19 : lw_tbl[377]? = some (Cond.code ai_r19.2.1 ai_r19.2.2.1 ai_r19.2.2.2.1 ai_r19.2.2.2.2.1) := by decide +kernel
set_option maxRecDepth 100000 in
theorem ai_c20 : lw_tbl[385]? = some (Cond.code ai_r20.2.1 ai_r20.2.2.1 ai_r20.2.2.2.1 ai_r20.2.2.2.2.1) := by decide +kernel
set_option maxRecDepth 100000 in
theorem ai_c21 : lw_tbl[381]? = some (Cond.code ai_r21.2.1 ai_r21.2.2.1 ai_r21.2.2.2.1 ai_r21.2.2.2.2.1) := by decide +kernel
set_option maxRecDepth 100000 in
theorem ai_c22 : lw_tbl[393]? = some (Cond.code ai_r22.2.1 ai_r22.2.2.1 ai_r22.2.2.2.1 ai_r22.2.2.2.2.1) := by decide +kernel
set_option maxRecDepth 100000 in
theorem ai_c23 : lw_tbl[318]? = some (Cond.code ai_r23.2.1 ai_r23.2.2.1 ai_r23.2.2.2.1 ai_r23.2.2.2.2.1) := by decide +kernel
set_option maxRecDepth 100000 in
theorem ai_c24 : lw_tbl[304]? = some (Cond.code ai_r24.2.1 ai_r24.2.2.1 ai_r24.2.2.2.1 ai_r24.2.2.2.2.1) := by decide +kernel
set_option maxRecDepth 100000 in
theorem ai_c25 : lw_tbl[263]? = some (Cond.code ai_r25.2.1 ai_r25.2.2.1 ai_r25.2.2.2.1 ai_r25.2.2.2.2.1) := by decide +kernel
set_option maxRecDepth 100000 in
theorem ai_c26 : lw_tbl[289]? = some (Cond.code ai_r26.2.1 ai_r26.2.2.1 ai_r26.2.2.2.1 ai_r26.2.2.2.2.1) := by decide +kernel
set_option maxRecDepth 100000 in
theorem ai_c27 : lw_tbl[269]? = some (Cond.code ai_r27.2.1 ai_r27.2.2.1 ai_r27.2.2.2.1 ai_r27.2.2.2.2.1) := by decide +kernel
set_option maxRecDepth 100000 in
theorem ai_c28 : lw_tbl[293]? = some (Cond.code ai_r28.2.1 ai_r28.2.2.1 ai_r28.2.2.2.1 ai_r28.2.2.2.2.1) := by decide +kernel
set_option maxRecDepth 100000 in
theorem ai_c29 : lw_tbl[307]? = some (Cond.code ai_r29.2.1 ai_r29.2.2.1 ai_r29.2.2.2.1 ai_r29.2.2.2.2.1) := by decide +kernel
set_option maxRecDepth 100000 in
theorem ai_c30 : lw_tbl[314]? = some (Cond.code ai_r30.2.1 ai_r30.2.2.1 ai_r30.2.2.2.1 ai_r30.2.2.2.2.1) := by decide +kernel
set_option maxRecDepth 100000 in
theorem ai_c31 : lw_tbl[322]? = some (Cond.code ai_r31.2.1 ai_r31.2.2.1 ai_r31.2.2.2.1 ai_r31.2.2.2.2.1) := by decide +kernel
set_option maxRecDepth 100000 in
theorem ai_c32 : lw_tbl[351]? = some (Cond.code ai_r32.2.1 ai_r32.2.2.1 ai_r32.2.2.2.1 ai_r32.2.2.2.2.1) := by decide +kernel
set_option maxRecDepth 100000 in
theorem ai_c33 : lw_tbl[355]? = some (Cond.code ai_r33.2.1 ai_r33.2.2.1 ai_r33.2.2.2.1 ai_r33.2.2.2.2.1) := by decide +kernel
set_option maxRecDepth 100000 in
theorem ai_c34 : lw_tbl[359]? = some (Cond.code ai_r34.2.1 ai_r34.2.2.1 ai_r34.2.2.2.1 ai_r34.2.2.2.2.1) := by decide +kernel
set_option maxRecDepth 100000 in
theorem ai_c35 : lw_tbl[124]? = some (Cond.code ai_r35.2.1 ai_r35.2.2.1 ai_r35.2.2.2.1 ai_r35.2.2.2.2.1) := by decide +kernel
set_option maxRecDepth 100000 in
theorem ai_c36 : lw_tbl[484]? = some (Cond.code ai_r36.2.1 ai_r36.2.2.1 ai_r36.2.2.2.1 ai_r36.2.2.2.2.1) := by decide +kernel
set_option maxRecDepth 100000 in
theorem ai_c37 : lw_tbl[488]? = some (Cond.code ai_r37.2.1 ai_r37.2.2.1 ai_r37.2.2.2.1 ai_r37.2.2.2.2.1) := by decide +kernel
set_option maxRecDepth 100000 in
theorem ai_c38 : lw_tbl[492]? = some (Cond.code ai_r38.2.1 ai_r38.2.2.1 ai_r38.2.2.2.1 ai_r38.2.2.2.2.1) := by decide +kernel
set_option maxRecDepth 100000 in
theorem ai_c39 : lw_tbl[496]? = some (Cond.code ai_r39.2.1 ai_r39.2.2.1 ai_r39.2.2.2.1 ai_r39.2.2.2.2.1) := by decide +kernel
set_option maxRecDepth 100000 in
theorem ai_c40 : lw_tbl[505]? = some (Cond.code ai_r40.2.1 ai_r40.2.2.1 ai_r40.2.2.2.1 ai_r40.2.2.2.2.1) := by decide +kernel
set_option maxRecDepth 100000 in
theorem ai_c41 : lw_tbl[429]? = some (Cond.code ai_r41.2.1 ai_r41.2.2.1 ai_r41.2.2.2.1 ai_r41.2.2.2.2.1) := by decide +kernel
set_option maxRecDepth 100000 in
theorem ai_c42 : lw_tbl[425]? = some (Cond.code ai_r42.2.1 ai_r42.2.2.1 ai_r42.2.2.2.1 ai_r42.2.2.2.2.1) := by decide +kernel
set_option maxRecDepth 100000 in
theorem ai_c43 : lw_tbl[433]? = some (Cond.code ai_r43.2.1 ai_r43.2.2.1 ai_r43.2.2.2.1 ai_r43.2.2.2.2.1) := by decide +kernel
set_option maxRecDepth 100000 in
theorem ai_c44 : lw_tbl[437]? = some (Cond.code ai_r44.2.1 ai_r44.2.2.1 ai_r44.2.2.2.1 ai_r44.2.2.2.2.1) := by decide +kernel
set_option maxRecDepth 100000 in
theorem ai_c45 : lw_tbl[442]? = some (Cond.code ai_r45.2.1 ai_r45.2.2.1 ai_r45.2.2.2.1 ai_r45.2.2.2.2.1) := by decide +kernel
set_option maxRecDepth 100000 in
theorem ai_c46 : lw_tbl[455]? = some (Cond.code ai_r46.2.1 ai_r46.2.2.1 ai_r46.2.2.2.1 ai_r46.2.2.2.2.1) := by decide +kernel
set_option maxRecDepth 100000 in
theorem ai_c47 : lw_tbl[468]? = some (Cond.code ai_r47.2.1 ai_r47.2.2.1 ai_r47.2.2.2.1 ai_r47.2.2.2.2.1) := by decide +kernel
set_option maxRecDepth 100000 in
theorem ai_c48 : lw_tbl[472]? = some (Cond.code ai_r48.2.1 ai_r48.2.2.1 ai_r48.2.2.2.1 ai_r48.2.2.2.2.1) := by decide +kernel
set_option maxRecDepth 100000 in
theorem ai_c49 : lw_tbl[476]? = some (Cond.code ai_r49.2.1 ai_r49.2.2.1 ai_r49.2.2.2.1 ai_r49.2.2.2.2.1) := by decide +kernel
set_option maxRecDepth 100000 in
theorem ai_c50 : lw_tbl[463]? = some (Cond.code ai_r50.2.1 ai_r50.2.2.1 ai_r50.2.2.2.1 ai_r50.2.2.2.2.1) := by decide +kernel
set_option maxRecDepth 100000 in
theorem ai_c51 : lw_tbl[447]? = some (Cond.code ai_r51.2.1 ai_r51.2.2.1 ai_r51.2.2.2.1 ai_r51.2.2.2.2.1) := by decide +kernel
set_option maxRecDepth 100000 in
theorem ai_c52 : lw_tbl[459]? = some (Cond.code ai_r52.2.1 ai_r52.2.2.1 ai_r52.2.2.2.1 ai_r52.2.2.2.2.1) := by decide +kernel
set_option maxRecDepth 100000 in
theorem ai_c53 : lw_tbl[451]? = some (Cond.code ai_r53.2.1 ai_r53.2.2.1 ai_r53.2.2.2.1 ai_r53.2.2.2.2.1) := by decide +kernel
set_option maxRecDepth 100000 in
theorem ai_c54 : lw_tbl[114]? = some (Cond.code ai_r54.2.1 ai_r54.2.2.1 ai_r54.2.2.2.1 ai_r54.2.2.2.2.1) := by decide +kernel
set_option maxRecDepth 100000 in
theorem ai_c55 : lw_tbl[346]? = some (Cond.code ai_r55.2.1 ai_r55.2.2.1 ai_r55.2.2.2.1 ai_r55.2.2.2.2.1) := by decide +kernel
set_option maxRecDepth 100000 in
theorem ai_c56 : lw_tbl[372]? = some (Cond.code ai_r56.2.1 ai_r56.2.2.1 ai_r56.2.2.2.1 ai_r56.2.2.2.2.1) := by decide +kernel
set_option maxRecDepth 100000 in
theorem ai_c57 : lw_tbl[396]? = some (Cond.code ai_r57.2.1 ai_r57.2.2.1 ai_r57.2.2.2.1 ai_r57.2.2.2.2.1) := by decide +kernel
set_option maxRecDepth 100000 in
theorem ai_c58 : lw_tbl[400]? = some (Cond.code ai_r58.2.1 ai_r58.2.2.1 ai_r58.2.2.2.1 ai_r58.2.2.2.2.1) := by decide +kernel
set_option maxRecDepth 100000 in
theorem ai_c59 : lw_tbl[405]? = some (Cond.code ai_r59.2.1 ai_r59.2.2.1 ai_r59.2.2.2.1 ai_r59.2.2.2.2.1) := by decide +kernel
set_option maxRecDepth 100000 in
theorem ai_c60 : lw_tbl[98]? = some (Cond.code ai_r60.2.1 ai_r60.2.2.1 ai_r60.2.2.2.1 ai_r60.2.2.2.2.1) := by decide +kernel
set_option maxRecDepth 100000 in
theorem ai_c61 : lw_tbl[337]? = some (Cond.code ai_r61.2.1 ai_r61.2.2.1 ai_r61.2.2.2.1 ai_r61.2.2.2.2.1) := by decide +kernel
set_option maxRecDepth 100000 in
theorem ai_c62 : lw_tbl[540]? = some (Cond.code ai_r62.2.1 ai_r62.2.2.1 ai_r62.2.2.2.1 ai_r62.2.2.2.2.1) := by decide +kernel
set_option maxRecDepth 100000 in
theorem ai_c63 : lw_tbl[255]? = some (Cond.code ai_r63.2.1 ai_r63.2.2.1 ai_r63.2.2.2.1 ai_r63.2.2.2.2.1) := by decide +kernel
set_option maxRecDepth 100000 in
theorem ai_c64 : lw_tbl[259]? = some (Cond.code ai_r64.2.1 ai_r64.2.2.1 ai_r64.2.2.2.1 ai_r64.2.2.2.2.1) := by decide +kernel
set_option maxRecDepth 100000 in
theorem ai_c65 : lw_tbl[326]? = some (Cond.code ai_r65.2.1 ai_r65.2.2.1 ai_r65.2.2.2.1 ai_r65.2.2.2.2.1) := by decide +kernel
set_option maxRecDepth 100000 in
theorem ai_c66 : lw_tbl[333]? = some (Cond.code ai_r66.2.1 ai_r66.2.2.1 ai_r66.2.2.2.1 ai_r66.2.2.2.2.1) := by decide +kernel
set_option maxRecDepth 100000 in
theorem ai_c67 : lw_tbl[69]? = some (Cond.code ai_r67.2.1 ai_r67.2.2.1 ai_r67.2.2.2.1 ai_r67.2.2.2.2.1) := by decide +kernel
set_option maxRecDepth 100000 in
theorem ai_c68 : lw_tbl[198]? = some (Cond.code ai_r68.2.1 ai_r68.2.2.1 ai_r68.2.2.2.1 ai_r68.2.2.2.2.1) := by decide +kernel
set_option maxRecDepth 100000 in
theorem ai_c69 : lw_tbl[235]? = some (Cond.code ai_r69.2.1 ai_r69.2.2.1 ai_r69.2.2.2.1 ai_r69.2.2.2.2.1) := by decide +kernel
set_option maxRecDepth 100000 in
theorem ai_c70 : lw_tbl[247]? = some (Cond.code ai_r70.2.1 ai_r70.2.2.1 ai_r70.2.2.2.1 ai_r70.2.2.2.2.1) := by decide +kernel
set_option maxRecDepth 100000 in
theorem ai_c71 : lw_tbl[251]? = some (Cond.code ai_r71.2.1 ai_r71.2.2.1 ai_r71.2.2.2.1 ai_r71.2.2.2.2.1) := by decide +kernel
set_option maxRecDepth 100000 in
theorem ai_c72 : lw_tbl[413]? = some (Cond.code ai_r72.2.1 ai_r72.2.2.1 ai_r72.2.2.2.1 ai_r72.2.2.2.2.1) := by decide +kernel
set_option maxRecDepth 100000 in
theorem ai_c73 : lw_tbl[480]? = some (Cond.code ai_r73.2.1 ai_r73.2.2.1 ai_r73.2.2.2.1 ai_r73.2.2.2.2.1) := by decide +kernel
set_option maxRecDepth 100000 in
theorem ai_c74 : lw_tbl[501]? = some (Cond.code ai_r74.2.1 ai_r74.2.2.1 ai_r74.2.2.2.1 ai_r74.2.2.2.2.1) := by decide +kernel
set_option maxRecDepth 100000 in
theorem ai_c75 : lw_tbl[509]? = some (Cond.code ai_r75.2.1 ai_r75.2.2.1 ai_r75.2.2.2.1 ai_r75.2.2.2.2.1) := by decide +kernel
set_option maxRecDepth 100000 in
theorem ai_c76 : lw_tbl[521]? = some (Cond.code ai_r76.2.1 ai_r76.2.2.1 ai_r76.2.2.2.1 ai_r76.2.2.2.2.1) := by decide +kernel
set_option maxRecDepth 100000 in
theorem ai_c77 : lw_tbl[527]? = some (Cond.code ai_r77.2.1 ai_r77.2.2.1 ai_r77.2.2.2.1 ai_r77.2.2.2.2.1) := by decide +kernel
set_option maxRecDepth 100000 in
theorem ai_c78 : lw_tbl[532]? = some (Cond.code ai_r78.2.1 ai_r78.2.2.1 ai_r78.2.2.2.1 ai_r78.2.2.2.2.1) := by decide +kernel
set_option maxRecDepth 100000 in
theorem ai_c79 : lw_tbl[536]? = some (Cond.code ai_r79.2.1 ai_r79.2.2.1 ai_r79.2.2.2.1 ai_r79.2.2.2.2.1) := by decide +kernel
set_option maxRecDepth 100000 in
theorem ai_c80 : lw_tbl[544]? = some (Cond.code ai_r80.2.1 ai_r80.2.2.1 ai_r80.2.2.2.1 ai_r80.2.2.2.2.1) := by decide +kernel
set_option maxRecDepth 100000 in
theorem ai_c81 : lw_tbl[560]? = some (Cond.code ai_r81.2.1 ai_r81.2.2.1 ai_r81.2.2.2.1 ai_r81.2.2.2.2.1) := by decide +kernel
set_option maxRecDepth 100000 in
theorem ai_c82 : lw_tbl[564]? = some (Cond.code ai_r82.2.1 ai_r82.2.2.1 ai_r82.2.2.2.1 ai_r82.2.2.2.2.1) := by decide +kernel
set_option maxRecDepth 100000 in
theorem ai_c83 : lw_tbl[569]? = some (Cond.code ai_r83.2.1 ai_r83.2.2.1 ai_r83.2.2.2.1 ai_r83.2.2.2.2.1) := by decide +kernel
set_option maxRecDepth 100000 in
theorem ai_c84 : lw_tbl[417]? = some (Cond.code ai_r84.2.1 ai_r84.2.2.1 ai_r84.2.2.2.1 ai_r84.2.2.2.2.1) := by decide +kernel
set_option maxRecDepth 100000 in
theorem ai_c85 : lw_tbl[421]? = some (Cond.code ai_r85.2.1 ai_r85.2.2.1 ai_r85.2.2.2.1 ai_r85.2.2.2.2.1) := by decide +kernel
set_option maxRecDepth 100000 in
theorem ai_c86 : lw_tbl[513]? = some (Cond.code ai_r86.2.1 ai_r86.2.2.1 ai_r86.2.2.2.1 ai_r86.2.2.2.2.1) := by decide +kernel
set_option maxRecDepth 100000 in
theorem ai_c87 : lw_tbl[201]? = some (Cond.code ai_r87.2.1 ai_r87.2.2.1 ai_r87.2.2.2.1 ai_r87.2.2.2.2.1) := by decide +kernel
set_option maxRecDepth 100000 in
theorem ai_c88 : lw_tbl[212]? = some (Cond.code ai_r88.2.1 ai_r88.2.2.1 ai_r88.2.2.2.1 ai_r88.2.2.2.2.1) := by decide +kernel
set_option maxRecDepth 100000 in
theorem ai_c89 : lw_tbl[215]? = some (Cond.code ai_r89.2.1 ai_r89.2.2.1 ai_r89.2.2.2.1 ai_r89.2.2.2.2.1) := by decide +kernel
set_option maxRecDepth 100000 in
theorem ai_c90 : lw_tbl[207]? = some (Cond.code ai_r90.2.1 ai_r90.2.2.1 ai_r90.2.2.2.1 ai_r90.2.2.2.2.1) := by decide +kernel
set_option maxRecDepth 100000 in
theorem ai_c91 : lw_tbl[204]? = some (Cond.code ai_r91.2.1 ai_r91.2.2.1 ai_r91.2.2.2.1 ai_r91.2.2.2.2.1) := by decide +kernel
set_option maxRecDepth 100000 in
theorem ai_c92 : lw_tbl[218]? = some (Cond.code ai_r92.2.1 ai_r92.2.2.1 ai_r92.2.2.2.1 ai_r92.2.2.2.2.1) := by decide +kernel
set_option maxRecDepth 100000 in
theorem ai_c93 : lw_tbl[310]? = some (Cond.code ai_r93.2.1 ai_r93.2.2.1 ai_r93.2.2.2.1 ai_r93.2.2.2.2.1) := by decide +kernel
set_option maxRecDepth 100000 in
theorem ai_c94 : lw_tbl[575]? = some (Cond.code ai_r94.2.1 ai_r94.2.2.1 ai_r94.2.2.2.1 ai_r94.2.2.2.2.1) := by decide +kernel
set_option maxRecDepth 100000 in
theorem ai_c95 : lw_tbl[674]? = some (Cond.code ai_r95.2.1 ai_r95.2.2.1 ai_r95.2.2.2.1 ai_r95.2.2.2.2.1) := by decide +kernel
set_option maxRecDepth 100000 in
theorem ai_c96 : lw_tbl[671]? = some (Cond.code ai_r96.2.1 ai_r96.2.2.1 ai_r96.2.2.2.1 ai_r96.2.2.2.2.1) := by decide +kernel
set_option maxRecDepth 100000 in
theorem ai_c97 : lw_tbl[686]? = some (Cond.code ai_r97.2.1 ai_r97.2.2.1 ai_r97.2.2.2.1 ai_r97.2.2.2.2.1) := by decide +kernel
set_option maxRecDepth 100000 in
theorem ai_c98 : lw_tbl[692]? = some (Cond.code ai_r98.2.1 ai_r98.2.2.1 ai_r98.2.2.2.1 ai_r98.2.2.2.2.1) := by decide +kernel
set_option maxRecDepth 100000 in
theorem ai_c99 : lw_tbl[680]? = some (Cond.code ai_r99.2.1 ai_r99.2.2.1 ai_r99.2.2.2.1 ai_r99.2.2.2.2.1) := by decide +kernel
set_option maxRecDepth 100000 in
theorem ai_c100 : lw_tbl[677]? = some (Cond.code ai_r100.2.1 ai_r100.2.2.1 ai_r100.2.2.2.1 ai_r100.2.2.2.2.1) := by decide +kernel
set_option maxRecDepth 100000 in
theorem ai_c101 : lw_tbl[683]? = some (Cond.code ai_r101.2.1 ai_r101.2.2.1 ai_r101.2.2.2.1 ai_r101.2.2.2.2.1) := by decide +kernel
set_option maxRecDepth 100000 in
theorem ai_c102 : lw_tbl[689]? = some (Cond.code ai_r102.2.1 ai_r102.2.2.1 ai_r102.2.2.2.1 ai_r102.2.2.2.2.1) := by decide +kernel
set_option maxRecDepth 100000 in
theorem ai_c103 : lw_tbl[668]? = some (Cond.code ai_r103.2.1 ai_r103.2.2.1 ai_r103.2.2.2.1 ai_r103.2.2.2.2.1) := by decide +kernel
set_option maxRecDepth 100000 in
theorem ai_c104 : lw_tbl[696]? = some (Cond.code ai_r104.2.1 ai_r104.2.2.1 ai_r104.2.2.2.1 ai_r104.2.2.2.2.1) := by decide +kernel
set_option maxRecDepth 100000 in
theorem ai_c105 : lw_tbl[700]? = some (Cond.code ai_r105.2.1 ai_r105.2.2.1 ai_r105.2.2.2.1 ai_r105.2.2.2.2.1) := by decide +kernel
set_option maxRecDepth 100000 in
theorem ai_c106 : lw_tbl[721]? = some (Cond.code ai_r106.2.1 ai_r106.2.2.1 ai_r106.2.2.2.1 ai_r106.2.2.2.2.1) := by decide +kernel
set_option maxRecDepth 100000 in
theorem ai_c107 : lw_tbl[744]? = some (Cond.code ai_r107.2.1 ai_r107.2.2.1 ai_r107.2.2.2.1 ai_r107.2.2.2.2.1) := by decide +kernel
set_option maxRecDepth 100000 in
theorem ai_c108 : lw_tbl[733]? = some (Cond.code ai_r108.2.1 ai_r108.2.2.1 ai_r108.2.2.2.1 ai_r108.2.2.2.2.1) := by decide +kernel
set_option maxRecDepth 100000 in
theorem ai_c109 : lw_tbl[741]? = some (Cond.code ai_r109.2.1 ai_r109.2.2.1 ai_r109.2.2.2.1 ai_r109.2.2.2.2.1) := by decide +kernel
set_option maxRecDepth 100000 in
theorem ai_c110 : lw_tbl[729]? = some (Cond.code ai_r110.2.1 ai_r110.2.2.1 ai_r110.2.2.2.1 ai_r110.2.2.2.2.1) := by decide +kernel
set_option maxRecDepth 100000 in
theorem ai_c111 : lw_tbl[737]? = some (Cond.code ai_r111.2.1 ai_r111.2.2.1 ai_r111.2.2.2.1 ai_r111.2.2.2.2.1) := by decide +kernel
set_option maxRecDepth 100000 in
theorem ai_c112 : lw_tbl[725]? = some (Cond.code ai_r112.2.1 ai_r112.2.2.1 ai_r112.2.2.2.1 ai_r112.2.2.2.2.1) := by decide +kernel
set_option maxRecDepth 100000 in
theorem ai_c113 : lw_tbl[716]? = some (Cond.code ai_r113.2.1 ai_r113.2.2.1 ai_r113.2.2.2.1 ai_r113.2.2.2.2.1) := by decide +kernel
set_option maxRecDepth 100000 in
theorem ai_c114 : lw_tbl[752]? = some (Cond.code ai_r114.2.1 ai_r114.2.2.1 ai_r114.2.2.2.1 ai_r114.2.2.2.2.1) := by decide +kernel
set_option maxRecDepth 100000 in
theorem ai_c115 : lw_tbl[748]? = some (Cond.code ai_r115.2.1 ai_r115.2.2.1 ai_r115.2.2.2.1 ai_r115.2.2.2.2.1) := by decide +kernel
set_option maxRecDepth 100000 in
theorem ai_c116 : lw_tbl[712]? = some (Cond.code ai_r116.2.1 ai_r116.2.2.1 ai_r116.2.2.2.1 ai_r116.2.2.2.2.1) := by decide +kernel
set_option maxRecDepth 100000 in
theorem ai_c117 : lw_tbl[760]? = some (Cond.code ai_r117.2.1 ai_r117.2.2.1 ai_r117.2.2.2.1 ai_r117.2.2.2.2.1) := by decide +kernel
set_option maxRecDepth 100000 in
theorem ai_c118 : lw_tbl[756]? = some (Cond.code ai_r118.2.1 ai_r118.2.2.1 ai_r118.2.2.2.1 ai_r118.2.2.2.2.1) := by decide +kernel
set_option maxRecDepth 100000 in
theorem ai_c119 : lw_tbl[708]? = some (Cond.code ai_r119.2.1 ai_r119.2.2.1 ai_r119.2.2.2.1 ai_r119.2.2.2.2.1) := by decide +kernel
set_option maxRecDepth 100000 in
theorem ai_c120 : lw_tbl[704]? = some (Cond.code ai_r120.2.1 ai_r120.2.2.1 ai_r120.2.2.2.1 ai_r120.2.2.2.2.1) := by decide +kernel
set_option maxRecDepth 100000 in
theorem ai_c121 : lw_tbl[764]? = some (Cond.code ai_r121.2.1 ai_r121.2.2.1 ai_r121.2.2.2.1 ai_r121.2.2.2.2.1) := by decide +kernel
set_option maxRecDepth 100000 in
theorem ai_c122 : lw_tbl[770]? = some (Cond.code ai_r122.2.1 ai_r122.2.2.1 ai_r122.2.2.2.1 ai_r122.2.2.2.2.1) := by decide +kernel
set_option maxRecDepth 100000 in
theorem ai_c123 : lw_tbl[778]? = some (Cond.code ai_r123.2.1 ai_r123.2.2.1 ai_r123.2.2.2.1 ai_r123.2.2.2.2.1) := by decide +kernel
set_option maxRecDepth 100000 in
theorem ai_c124 : lw_tbl[774]? = some (Cond.code ai_r124.2.1 ai_r124.2.2.1 ai_r124.2.2.2.1 ai_r124.2.2.2.2.1) := by decide +kernel
set_option maxRecDepth 100000 in
theorem ai_c125 : lw_tbl[782]? = some (Cond.code ai_r125.2.1 ai_r125.2.2.1 ai_r125.2.2.2.1 ai_r125.2.2.2.2.1) := by decide +kernel
set_option maxRecDepth 100000 in
theorem ai_c126 : lw_tbl[798]? = some (Cond.code ai_r126.2.1 ai_r126.2.2.1 ai_r126.2.2.2.1 ai_r126.2.2.2.2.1) := by decide +kernel
set_option maxRecDepth 100000 in
theorem ai_c127 : lw_tbl[794]? = some (Cond.code ai_r127.2.1 ai_r127.2.2.1 ai_r127.2.2.2.1 ai_r127.2.2.2.2.1) := by decide +kernel
set_option maxRecDepth 100000 in
theorem ai_c128 : lw_tbl[801]? = some (Cond.code ai_r128.2.1 ai_r128.2.2.1 ai_r128.2.2.2.1 ai_r128.2.2.2.2.1) := by decide +kernel
set_option maxRecDepth 100000 in
theorem ai_c129 : lw_tbl[790]? = some (Cond.code ai_r129.2.1 ai_r129.2.2.1 ai_r129.2.2.2.1 ai_r129.2.2.2.2.1) := by decide +kernel
set_option maxRecDepth 100000 in
theorem ai_c130 : lw_tbl[786]? = some (Cond.code ai_r130.2.1 ai_r130.2.2.1 ai_r130.2.2.2.1 ai_r130.2.2.2.2.1) := by decide +kernel
set_option maxRecDepth 100000 in
theorem ai_c131 : lw_tbl[813]? = some (Cond.code ai_r131.2.1 ai_r131.2.2.1 ai_r131.2.2.2.1 ai_r131.2.2.2.2.1) := by decide +kernel
set_option maxRecDepth 100000 in
theorem ai_c132 : lw_tbl[809]? = some (Cond.code ai_r132.2.1 ai_r132.2.2.1 ai_r132.2.2.2.1 ai_r132.2.2.2.2.1) := by decide +kernel
set_option maxRecDepth 100000 in
theorem ai_c133 : lw_tbl[805]? = some (Cond.code ai_r133.2.1 ai_r133.2.2.1 ai_r133.2.2.2.1 ai_r133.2.2.2.2.1) := by decide +kernel
set_option maxRecDepth 100000 in
theorem ai_c134 : lw_tbl[821]? = some (Cond.code ai_r134.2.1 ai_r134.2.2.1 ai_r134.2.2.2.1 ai_r134.2.2.2.2.1) := by decide +kernel
set_option maxRecDepth 100000 in
theorem ai_c135 : lw_tbl[825]? = some (Cond.code ai_r135.2.1 ai_r135.2.2.1 ai_r135.2.2.2.1 ai_r135.2.2.2.2.1) := by decide +kernel
set_option maxRecDepth 100000 in
theorem ai_c136 : lw_tbl[829]? = some (Cond.code ai_r136.2.1 ai_r136.2.2.1 ai_r136.2.2.2.1 ai_r136.2.2.2.2.1) := by decide +kernel
set_option maxRecDepth 100000 in
theorem ai_c137 : lw_tbl[817]? = some (Cond.code ai_r137.2.1 ai_r137.2.2.1 ai_r137.2.2.2.1 ai_r137.2.2.2.2.1) := by decide +kernel
set_option maxRecDepth 100000 in
theorem ai_c138 : lw_tbl[833]? = some (Cond.code ai_r138.2.1 ai_r138.2.2.1 ai_r138.2.2.2.1 ai_r138.2.2.2.2.1) := by decide +kernel
set_option maxRecDepth 100000 in
theorem ai_c139 : lw_tbl[838]? = some (Cond.code ai_r139.2.1 ai_r139.2.2.1 ai_r139.2.2.2.1 ai_r139.2.2.2.2.1) := by decide +kernel
set_option maxRecDepth 100000 in
theorem ai_c140 : lw_tbl[842]? = some (Cond.code ai_r140.2.1 ai_r140.2.2.1 ai_r140.2.2.2.1 ai_r140.2.2.2.2.1) := by decide +kernel
set_option maxRecDepth 100000 in
theorem ai_c141 : lw_tbl[846]? = some (Cond.code ai_r141.2.1 ai_r141.2.2.1 ai_r141.2.2.2.1 ai_r141.2.2.2.2.1) := by decide +kernel
set_option maxRecDepth 100000 in
theorem ai_c142 : lw_tbl[851]? = some (Cond.code ai_r142.2.1 ai_r142.2.2.1 ai_r142.2.2.2.1 ai_r142.2.2.2.2.1) := by decide +kernel
theorem ai_cg0 : ∀ r ∈ ([ai_r0, ai_r1, ai_r2, ai_r3, ai_r4, ai_r5, ai_r6, ai_r7, ai_r8, ai_r9, ai_r10, ai_r11, ai_r12, ai_r13, ai_r14, ai_r15, ai_r16, ai_r17, ai_r18, ai_r19, ai_r20, ai_r21, ai_r22, ai_r23] : List ai_R), Cond.code r.2.1 r.2.2.1 r.2.2.2.1 r.2.2.2.2.1 ∈ lw_tbl := List.forall_mem_cons.mpr ⟨List.mem_of_getElem? ai_c0, List.forall_mem_cons.mpr ⟨List.mem_of_getElem? ai_c1, List.forall_mem_cons.mpr ⟨List.mem_of_getElem? ai_c2, List.forall_mem_cons.mpr ⟨List.mem_of_getElem? ai_c3, List.forall_mem_cons.mpr ⟨List.mem_of_getElem? ai_c4, List.forall_mem_cons.mpr ⟨List.mem_of_getElem? ai_c5, List.forall_mem_cons.mpr ⟨List.mem_of_getElem? ai_c6, List.forall_mem_cons.mpr ⟨List.mem_of_getElem? ai_c7, List.forall_mem_cons.mpr ⟨List.mem_of_getElem? ai_c8, List.forall_mem_cons.mpr ⟨List.mem_of_getElem? ai_c9, List.forall_mem_cons.mpr ⟨List.mem_of_getElem? ai_c10, List.forall_mem_cons.mpr ⟨List.mem_of_getElem? ai_c11, List.forall_mem_cons.mpr ⟨List.mem_of_getElem? ai_c12, List.forall_mem_cons.mpr ⟨List.mem_of_getElem? ai_c13, List.forall_mem_cons.mpr ⟨List.mem_of_getElem? ai_c14, List.forall_mem_cons.mpr ⟨List.mem_of_getElem? ai_c15, List.forall_mem_cons.mpr ⟨List.mem_of_getElem? ai_c16, List.forall_mem_cons.mpr ⟨List.mem_of_getElem? ai_c17, List.forall_mem_cons.mpr ⟨List.mem_of_getElem? ai_c18, List.forall_mem_cons.mpr ⟨List.mem_of_getElem? ai_c19, List.forall_mem_cons.mpr ⟨List.mem_of_getElem? ai_c20, List.forall_mem_cons.mpr ⟨List.mem_of_getElem? ai_c21, List.forall_mem_cons.mpr ⟨List.mem_of_getElem? ai_c22, List.forall_mem_cons.mpr ⟨List.mem_of_getElem? ai_c23, fun _ h => absurd h List.not_mem_nil⟩⟩⟩⟩⟩⟩⟩⟩⟩⟩⟩⟩⟩⟩⟩⟩⟩⟩⟩⟩⟩⟩⟩⟩
theorem ai_cg1 : ∀ r ∈ ([ai_r24, ai_r25, ai_r26, ai_r27, ai_r28, ai_r29, ai_r30, ai_r31, ai_r32, ai_r33, ai_r34, ai_r35, ai_r36, ai_r37, ai_r38, ai_r39, ai_r40, ai_r41, ai_r42, ai_r43, ai_r44, ai_r45, ai_r46, ai_r47] : List ai_R), Cond.code r.2.1 r.2.2.1 r.2.2.2.1 r.2.2.2.2.1 ∈ lw_tbl := List.forall_mem_cons.mpr ⟨List.mem_of_getElem? ai_c24, List.forall_mem_cons.mpr ⟨List.mem_of_getElem? ai_c25, List.forall_mem_cons.mpr ⟨List.mem_of_getElem? ai_c26, List.forall_mem_cons.mpr ⟨List.mem_of_getElem? ai_c27, List.forall_mem_cons.mpr ⟨List.mem_of_getElem? ai_c28, List.forall_mem_cons.mpr ⟨List.mem_of_getElem? ai_c29, List.forall_mem_cons.mpr ⟨List.mem_of_getElem? ai_c30, List.forall_mem_cons.mpr ⟨List.mem_of_getElem? ai_c31, List.forall_mem_cons.mpr ⟨List.mem_of_getElem? ai_c32, List.forall_mem_cons.mpr ⟨List.mem_of_getElem? ai_c33, List.forall_mem_cons.mpr ⟨List.mem_of_getElem? ai_c34, List.forall_mem_cons.mpr ⟨List.mem_of_getElem? ai_c35, List.forall_mem_cons.mpr ⟨List.mem_of_getElem? ai_c36, List.forall_mem_cons.mpr ⟨List.mem_of_getElem? ai_c37, List.forall_mem_cons.mpr ⟨List.mem_of_getElem? ai_c38, List.forall_mem_cons.mpr ⟨List.mem_of_getElem? ai_c39, List.forall_mem_cons.mpr ⟨List.mem_of_getElem? ai_c40, List.forall_mem_cons.mpr ⟨List.mem_of_getElem? ai_c41, List.forall_mem_cons.mpr ⟨List.mem_of_getElem? ai_c42, List.forall_mem_cons.mpr ⟨List.mem_of_getElem? ai_c43, List.forall_mem_cons.mpr ⟨List.mem_of_getElem? ai_c44, List.forall_mem_cons.mpr ⟨List.mem_of_getElem? ai_c45, List.forall_mem_cons.mpr ⟨List.mem_of_getElem? ai_c46, List.forall_mem_cons.mpr ⟨List.mem_of_getElem? ai_c47, fun _ h => absurd h List.not_mem_nil⟩⟩⟩⟩⟩⟩⟩⟩⟩⟩⟩⟩⟩⟩⟩⟩⟩⟩⟩⟩⟩⟩⟩⟩
theorem ai_cg2 : ∀ r ∈ ([ai_r48, ai_r49, ai_r50, ai_r51, ai_r52, ai_r53, ai_r54, ai_r55, ai_r56, ai_r57, ai_r58, ai_r59, ai_r60, ai_r61, ai_r62, ai_r63, ai_r64, ai_r65, ai_r66, ai_r67, ai_r68, ai_r69, ai_r70, ai_r71] : List ai_R), Cond.code r.2.1 r.2.2.1 r.2.2.2.1 r.2.2.2.2.1 ∈ lw_tbl := List.forall_mem_cons.mpr ⟨List.mem_of_getElem? ai_c48, List.forall_mem_cons.mpr ⟨List.mem_of_getElem? ai_c49, List.forall_mem_cons.mpr ⟨List.mem_of_getElem? ai_c50, List.forall_mem_cons.mpr ⟨List.mem_of_getElem? ai_c51, List.forall_mem_cons.mpr ⟨List.mem_of_getElem? ai_c52, List.forall_mem_cons.mpr ⟨List.mem_of_getElem? ai_c53, List.forall_mem_cons.mpr ⟨List.mem_of_getElem? ai_c54, List.forall_mem_cons.mpr ⟨List.mem_of_getElem? ai_c55, List.forall_mem_cons.mpr ⟨List.mem_of_getElem? ai_c56, List.forall_mem_cons.mpr ⟨List.mem_of_getElem? ai_c57, List.forall_mem_cons.mpr ⟨List.mem_of_getElem? ai_c58, List.forall_mem_cons.mpr ⟨List.mem_of_getElem? ai_c59, List.forall_mem_cons.mpr ⟨List.mem_of_getElem? ai_c60, List.forall_mem_cons.mpr ⟨List.mem_of_getElem? ai_c61, List.forall_mem_cons.mpr ⟨List.mem_of_getElem? ai_c62, List.forall_mem_cons.mpr ⟨List.mem_of_getElem? ai_c63, List.forall_mem_cons.mpr ⟨List.mem_of_getElem? ai_c64, List.forall_mem_cons.mpr ⟨List.mem_of_getElem? ai_c65, List.forall_mem_cons.mpr ⟨List.mem_of_getElem? ai_c66, List.forall_mem_cons.mpr ⟨List.mem_of_getElem? ai_c67, List.forall_mem_cons.mpr ⟨List.mem_of_getElem? ai_c68, List.forall_mem_cons.mpr ⟨List.mem_of_getElem? ai_c69, List.forall_mem_cons.mpr ⟨List.mem_of_getElem? ai_c70, List.forall_mem_cons.mpr ⟨List.mem_of_getElem? ai_c71, fun _ h => absurd h List.not_mem_nil⟩⟩⟩⟩⟩⟩⟩⟩⟩⟩⟩⟩⟩⟩⟩⟩⟩⟩⟩⟩⟩⟩⟩⟩
theorem ai_cg3 : ∀ r ∈ ([ai_r72, ai_r73, ai_r74, ai_r75, ai_r76, ai_r77, ai_r78, ai_r79, ai_r80, ai_r81, ai_r82, ai_r83, ai_r84, ai_r85, ai_r86, ai_r87, ai_r88, ai_r89, ai_r90, ai_r91, ai_r92, ai_r93, ai_r94, ai_r95] : List ai_R), Cond.code r.2.1 r.2.2.1 r.2.2.2.1 r.2.2.2.2.1 ∈ lw_tbl := List.forall_mem_cons.mpr ⟨List.mem_of_getElem? ai_c72, List.forall_mem_cons.mpr ⟨List.mem_of_getElem? ai_c73, List.forall_mem_cons.mpr ⟨List.mem_of_getElem? ai_c74, List.forall_mem_cons.mpr ⟨List.mem_of_getElem? ai_c75, List.forall_mem_cons.mpr ⟨List.mem_of_getElem? ai_c76, List.forall_mem_cons.mpr ⟨List.mem_of_getElem? ai_c77, List.forall_mem_cons.mpr ⟨List.mem_of_getElem? ai_c78, List.forall_mem_cons.mpr ⟨List.mem_of_getElem? ai_c79, List.forall_mem_cons.mpr ⟨List.mem_of_getElem? ai_c80, List.forall_mem_cons.mpr ⟨List.mem_of_getElem? ai_c81, List.forall_mem_cons.mpr ⟨List.mem_of_getElem? ai_c82, List.forall_mem_cons.mpr ⟨List.mem_of_getElem? ai_c83, List.forall_mem_cons.mpr ⟨List.mem_of_getElem? ai_c84, List.forall_mem_cons.mpr ⟨List.mem_of_getElem? ai_c85, List.forall_mem_cons.mpr ⟨List.mem_of_getElem? ai_c86, List.forall_mem_cons.mpr ⟨List.mem_of_getElem? ai_c87, List.forall_mem_cons.mpr ⟨List.mem_of_getElem? ai_c88, List.forall_mem_cons.mpr ⟨List.mem_of_getElem? ai_c89, List.forall_mem_cons.mpr ⟨List.mem_of_getElem? ai_c90, List.forall_mem_cons.mpr ⟨List.mem_of_getElem? ai_c91, List.forall_mem_cons.mpr ⟨List.mem_of_getElem? ai_c92, List.forall_mem_cons.mpr ⟨List.mem_of_getElem? ai_c93, List.forall_mem_cons.mpr ⟨List.mem_of_getElem? ai_c94, List.forall_mem_cons.mpr ⟨List.mem_of_getElem? ai_c95, fun _ h => absurd h List.not_mem_nil⟩⟩⟩⟩⟩⟩⟩⟩⟩⟩⟩⟩⟩⟩⟩⟩⟩⟩⟩⟩⟩⟩⟩⟩
theorem ai_cg4 : ∀ r ∈ ([ai_r96, ai_r97, ai_r98, ai_r99, ai_r100, ai_r101, ai_r102, ai_r103, ai_r104, ai_r105, ai_r106, ai_r107, ai_r108, ai_r109, ai_r110, ai_r111, ai_r112, ai_r113, ai_r114, ai_r115, ai_r116, ai_r117, ai_r118, ai_r119] : List ai_R), Cond.code r.2.1 r.2.2.1 r.2.2.2.1 r.2.2.2.2.1 ∈ lw_tbl := List.forall_mem_cons.mpr ⟨List.mem_of_getElem? ai_c96, List.forall_mem_cons.mpr ⟨List.mem_of_getElem? ai_c97, List.forall_mem_cons.mpr ⟨List.mem_of_getElem? ai_c98, List.forall_mem_cons.mpr ⟨List.mem_of_getElem? ai_c99, List.forall_mem_cons.mpr ⟨List.mem_of_getElem? ai_c100, List.forall_mem_cons.mpr ⟨List.mem_of_getElem? ai_c101, List.forall_mem_cons.mpr ⟨List.mem_of_getElem? ai_c102, List.forall_mem_cons.mpr ⟨List.mem_of_getElem? ai_c103, List.forall_mem_cons.mpr ⟨List.mem_of_getElem? ai_c104, List.forall_mem_cons.mpr ⟨List.mem_of_getElem? ai_c105, List.forall_mem_cons.mpr ⟨List.mem_of_getElem? ai_c106, List.forall_mem_cons.mpr ⟨List.mem_of_getElem? ai_c107, List.forall_mem_cons.mpr ⟨List.mem_of_getElem? ai_c108, List.forall_mem_cons.mpr ⟨List.mem_of_getElem? ai_c109, List.forall_mem_cons.mpr ⟨List.mem_of_getElem? ai_c110, List.forall_mem_cons.mpr ⟨List.mem_of_getElem? ai_c111, List.forall_mem_cons.mpr ⟨List.mem_of_getElem? ai_c112, List.forall_mem_cons.mpr ⟨List.mem_of_getElem? ai_c113, List.forall_mem_cons.mpr ⟨List.mem_of_getElem? ai_c114, List.forall_mem_cons.mpr ⟨List.mem_of_getElem? ai_c115, List.forall_mem_cons.mpr ⟨List.mem_of_getElem? ai_c116, List.forall_mem_cons.mpr ⟨List.mem_of_getElem? ai_c117, List.forall_mem_cons.mpr ⟨List.mem_of_getElem? ai_c118, List.forall_mem_cons.mpr ⟨List.mem_of_getElem? ai_c119, fun _ h => absurd h List.not_mem_nil⟩⟩⟩⟩⟩⟩⟩⟩⟩⟩⟩⟩⟩⟩⟩⟩⟩⟩⟩⟩⟩⟩⟩⟩
theorem ai_cg5 : ∀ r ∈ ([ai_r120, ai_r121, ai_r122, ai_r123, ai_r124, ai_r125, ai_r126, ai_r127, ai_r128, ai_r129, ai_r130, ai_r131, ai_r132, ai_r133, ai_r134, ai_r135, ai_r136, ai_r137, ai_r138, ai_r139, ai_r140, ai_r141, ai_r142] : List ai_R), Cond.code r.2.1 r.2.2.1 r.2.2.2.1 r.2.2.2.2.1 ∈ lw_tbl := List.forall_mem_cons.mpr ⟨List.mem_of_getElem? ai_c120, List.forall_mem_cons.mpr ⟨List.mem_of_getElem? ai_c121, List.forall_mem_cons.mpr ⟨List.mem_of_getElem? ai_c122, List.forall_mem_cons.mpr ⟨List.mem_of_getElem? ai_c123, List.forall_mem_cons.mpr ⟨List.mem_of_getElem? ai_c124, List.forall_mem_cons.mpr ⟨List.mem_of_getElem? ai_c125, List.forall_mem_cons.mpr ⟨List.mem_of_getElem? ai_c126, List.forall_mem_cons.mpr ⟨List.mem_of_getElem? ai_c127, List.forall_mem_cons.mpr ⟨List.mem_of_getElem? ai_c128, List.forall_mem_cons.mpr ⟨List.mem_of_getElem? ai_c129, List.forall_mem_cons.mpr ⟨List.mem_of_getElem? ai_c130, List.forall_mem_cons.mpr ⟨List.mem_of_getElem? ai_c131, List.forall_mem_cons.mpr ⟨List.mem_of_getElem? ai_c132, List.forall_mem_cons.mpr ⟨List.mem_of_getElem? ai_c133, List.forall_mem_cons.mpr ⟨List.mem_of_getElem? ai_c134, List.forall_mem_cons.mpr ⟨List.mem_of_getElem? ai_c135, List.forall_mem_cons.mpr ⟨List.mem_of_getElem? ai_c136, List.forall_mem_cons.mpr ⟨List.mem_of_getElem? ai_c137, List.forall_mem_cons.mpr ⟨List.mem_of_getElem? ai_c138, List.forall_mem_cons.mpr ⟨List.mem_of_getElem? ai_c139, List.forall_mem_cons.mpr ⟨List.mem_of_getElem? ai_c140, List.forall_mem_cons.mpr ⟨List.mem_of_getElem? ai_c141, List.forall_mem_cons.mpr ⟨List.mem_of_getElem? ai_c142, fun _ h => absurd h List.not_mem_nil⟩⟩⟩⟩⟩⟩⟩⟩⟩⟩⟩⟩⟩⟩⟩⟩⟩⟩⟩⟩⟩⟩⟩
theorem ai_call : ∀ r ∈ ai_ms.take 143, Cond.code r.2.1 r.2.2.1 r.2.2.2.1 r.2.2.2.2.1 ∈ lw_tbl := by
  show ∀ r ∈ ([ai_r0, ai_r1, ai_r2, ai_r3, ai_r4, ai_r5, ai_r6, ai_r7, ai_r8, ai_r9, ai_r10, ai_r11, ai_r12, ai_r13, ai_r14, ai_r15, ai_r16, ai_r17, ai_r18, ai_r19, ai_r20, ai_r21, ai_r22, ai_r23] : List ai_R) ++ (([ai_r24, ai_r25, ai_r26, ai_r27, ai_r28, ai_r29, ai_r30, ai_r31, ai_r32, ai_r33, ai_r34, ai_r35, ai_r36, ai_r37, ai_r38, ai_r39, ai_r40, ai_r41, ai_r42, ai_r43, ai_r44, ai_r45, ai_r46, ai_r47] : List ai_R) ++ (([ai_r48, ai_r49, ai_r50, ai_r51, ai_r52, ai_r53, ai_r54, ai_r55, ai_r56, ai_r57, ai_r58, ai_r59, ai_r60, ai_r61, ai_r62, ai_r63, ai_r64, ai_r65, ai_r66, ai_r67, ai_r68, ai_r69, ai_r70, ai_r71] : List ai_R) ++ (([ai_r72, ai_r73, ai_r74, ai_r75, ai_r76, ai_r77, ai_r78, ai_r79, ai_r80, ai_r81, ai_r82, ai_r83, ai_r84, ai_r85, ai_r86, ai_r87, ai_r88, ai_r89, ai_r90, ai_r91, ai_r92, ai_r93, ai_r94, ai_r95] : List ai_R) ++ (([ai_r96, ai_r97, ai_r98, ai_r99, ai_r100, ai_r101, ai_r102, ai_r103, ai_r104, ai_r105, ai_r106, ai_r107, ai_r108, ai_r109, ai_r110, ai_r111, ai_r112, ai_r113, ai_r114, ai_r115, ai_r116, ai_r117, ai_r118, ai_r119] : List ai_R) ++ ([ai_r120, ai_r121, ai_r122, ai_r123, ai_r124, ai_r125, ai_r126, ai_r127, ai_r128, ai_r129, ai_r130, ai_r131, ai_r132, ai_r133, ai_r134, ai_r135, ai_r136, ai_r137, ai_r138, ai_r139, ai_r140, ai_r141, ai_r142]))))), Cond.code r.2.1 r.2.2.1 r.2.2.2.1 r.2.2.2.2.1 ∈ lw_tbl
  exact List.forall_mem_append.mpr ⟨ai_cg0, List.forall_mem_append.mpr ⟨ai_cg1, List.forall_mem_append.mpr ⟨ai_cg2, List.forall_mem_append.mpr ⟨ai_cg3, List.forall_mem_append.mpr ⟨ai_cg4, ai_cg5⟩⟩⟩⟩⟩
end
section
/-! An interpreter of the bytecode over abstract worlds (addresses are numbers 0, 1, ..; tables that nobody writes stand from ai_B on). Tables of the claim: ai_I (code), ai_ms (methods), ai_ft (field types), ai_df (fresh fields) stand ahead. -/
def ai_B : Nat := 1000000
def ai_v (ad : Nat → Nat) (v : Value) : Value := match v with
  | .ref k => .ref (ad k)
  | .int x => .int x
  | .long x => .long x
  | .float x => .float x
  | .double x => .double x
  | .null => .null
  | .retAddr p => .retAddr p
def ai_e (ad : Nat → Nat) (ac : Nat → ClassId) (e : va_E) : va_E := match e with
  | .inl (t, n, .inr (.inr (.inr (.inr f)))) => .inl (ac t, n, .inr (.inr (.inr (.inr (fun i => if i < n then (f i).map ad else none)))))
  | .inl (t, n, .inl f) => .inl (ac t, n, .inl f)
  | .inl (t, n, .inr (.inl f)) => .inl (ac t, n, .inr (.inl f))
  | .inl (t, n, .inr (.inr (.inl f))) => .inl (ac t, n, .inr (.inr (.inl f)))
  | .inl (t, n, .inr (.inr (.inr (.inl f)))) => .inl (ac t, n, .inr (.inr (.inr (.inl f))))
  | .inr (ci, fs) => .inr (ci, fs.map (ai_v ad))
def ai_w (ad : Nat → Nat) (ac : Nat → ClassId) (M : List va_E) : va_W := M.mapIdx (fun k e => (ad k, ai_e ad ac e))
def ai_k (n : Nat) (v : Value) : Bool := match v with
  | .ref k => Nat.blt k n || Nat.ble ai_B k
  | _ => true
def ai_kl (n : Nat) (x : Option Value) : Bool := match x with
  | some v => ai_k n v
  | none => true
def ai_ko (n : Nat) (x : Option Nat) : Bool := match x with
  | some k => Nat.blt k n || Nat.ble ai_B k
  | none => true
def ai_ke (n : Nat) (e : va_E) : Bool := match e with
  | .inl (_, len, .inr (.inr (.inr (.inr f)))) => (List.range len).all (fun i => ai_ko n (f i))
  | .inl _ => true
  | .inr (_, fs) => fs.all (ai_k n)
def ai_g : List (Option Value) → Nat → Option Value
  | [], _ => none
  | x :: _, 0 => x
  | _ :: t, n + 1 => ai_g t n
def ai_f1 (x : Option Value) : Option Value := match x with
  | some (.long _) => none
  | some (.double _) => none
  | y => y
def ai_s1 (v : Value) : Nat → List (Option Value) → List (Option Value)
  | _, [] => []
  | 0, _ :: t => some v :: t
  | 1, x :: t => ai_f1 x :: ai_s1 v 0 t
  | n + 2, x :: t => x :: ai_s1 v (n + 1) t
def ai_s2 (v : Value) : Nat → List (Option Value) → List (Option Value)
  | _, [] => []
  | 0, _ :: [] => []
  | 0, _ :: _ :: t => some v :: none :: t
  | 1, x :: t => ai_f1 x :: ai_s2 v 0 t
  | n + 2, x :: t => x :: ai_s2 v (n + 1) t
def ai_l (ad : Nat → Nat) : Nat → List (Option Value) → List (Nat × Value)
  | _, [] => []
  | i, some v :: t => (i, ai_v ad v) :: ai_l ad (i + 1) t
  | i, none :: t => ai_l ad (i + 1) t
/-- the locals with which a method begins -/
def ai_en : Nat → List Value → List (Option Value)
  | 0, _ => []
  | n + 1, [] => none :: ai_en n []
  | n + 1, .long x :: t => some (.long x) :: (match n with | 0 => [] | k + 1 => none :: ai_en k t)
  | _ + 1, .double _ :: _ => []
  | n + 1, v :: t => some v :: ai_en n t
/-- fewer locals: those that a mask keeps -/
def ai_mk : List Bool → List (Option Value) → List (Option Value)
  | [], L => L
  | _, [] => []
  | true :: b, x :: t => x :: ai_mk b t
  | false :: b, _ :: t => none :: ai_mk b t
def ai_c (c : ClassFile.Cond) (x y : Int32) : Bool := match c with
  | .eq => decide (x = y)
  | .ne => decide (¬ x = y)
  | .lt => decide (x < y)
  | .ge => decide (y ≤ x)
  | .gt => decide (y < x)
  | .le => decide (x ≤ y)
def ai_to (pc : Nat) (off : Int) (L : List (Option Value)) (st : List Value) : Option (Nat × List (Option Value) × List Value) := match (pc : Int) + off with
  | .ofNat t => some (t, L, st)
  | .negSucc _ => none
def ai_j (b : Bool) (pc : Nat) (off : Int) (L : List (Option Value)) (st : List Value) : Option (Nat × List (Option Value) × List Value) := match (pc : Int) + off with
  | .ofNat t => (match b with
    | true => some (t, L, st)
    | false => some (pc + 3, L, st))
  | .negSucc _ => none
def ai_ld (x : Option Value) (pc : Nat) (L : List (Option Value)) (st : List Value) : Option (Nat × List (Option Value) × List Value) := match x with
  | some v => some (pc, L, v :: st)
  | none => none
def ai_isI (x : Option Value) : Option Value := match x with
  | some (.int v) => some (.int v)
  | _ => none
def ai_isL (x : Option Value) : Option Value := match x with
  | some (.long v) => some (.long v)
  | _ => none
def ai_isR (x : Option Value) : Option Value := match x with
  | some (.ref v) => some (.ref v)
  | some .null => some .null
  | _ => none
def ai_in (i : Int32) (n : Nat) : Bool := !(decide (i < 0) || decide (n ≤ i.toNatClampNeg))
/-- instructions on locals and stack alone -/
def ai_s (i : ClassFile.Instr) (pc nL : Nat) (L : List (Option Value)) (st : List Value) : Option (Nat × List (Option Value) × List Value) := match i with
  | .iconst v => some (pc + 1, L, .int (Int32.ofInt v) :: st)
  | .bipush v => some (pc + 2, L, .int (Int8.ofInt v).toInt32 :: st)
  | .sipush v => some (pc + 3, L, .int (Int16.ofInt v).toInt32 :: st)
  | .lconst v => some (pc + 1, L, .long (Int64.ofNat v) :: st)
  | .iload_n k => ai_ld (ai_isI (ai_g L k)) (pc + 1) L st
  | .iload k => ai_ld (ai_isI (ai_g L k)) (pc + 2) L st
  | .lload_n k => ai_ld (ai_isL (ai_g L k)) (pc + 1) L st
  | .lload k => ai_ld (ai_isL (ai_g L k)) (pc + 2) L st
  | .aload_n k => ai_ld (ai_isR (ai_g L k)) (pc + 1) L st
  | .aload k => ai_ld (ai_isR (ai_g L k)) (pc + 2) L st
  | .istore_n k => match st with
    | .int x :: r => if (k : Nat) < nL then some (pc + 1, ai_s1 (.int x) k L, r) else none
    | _ => none
  | .istore k => match st with
    | .int x :: r => if k < nL then some (pc + 2, ai_s1 (.int x) k L, r) else none
    | _ => none
  | .lstore_n k => match st with
    | .long x :: r => if (k : Nat) + 1 < nL then some (pc + 1, ai_s2 (.long x) k L, r) else none
    | _ => none
  | .lstore k => match st with
    | .long x :: r => if k + 1 < nL then some (pc + 2, ai_s2 (.long x) k L, r) else none
    | _ => none
  | .astore_n k => match st with
    | .ref x :: r => if (k : Nat) < nL then some (pc + 1, ai_s1 (.ref x) k L, r) else none
    | _ => none
  | .astore k => match st with
    | .ref x :: r => if k < nL then some (pc + 2, ai_s1 (.ref x) k L, r) else none
    | _ => none
  | .iinc k n => match ai_g L k with
    | some (.int x) => if k < nL then some (pc + 3, ai_s1 (.int (x + Int32.ofInt n)) k L, st) else none
    | _ => none
  | .iadd => match st with
    | .int y :: .int x :: r => some (pc + 1, L, .int (x + y) :: r)
    | _ => none
  | .isub => match st with
    | .int y :: .int x :: r => some (pc + 1, L, .int (x - y) :: r)
    | _ => none
  | .imul => match st with
    | .int y :: .int x :: r => some (pc + 1, L, .int (x * y) :: r)
    | _ => none
  | .iand => match st with
    | .int y :: .int x :: r => some (pc + 1, L, .int (x &&& y) :: r)
    | _ => none
  | .ior => match st with
    | .int y :: .int x :: r => some (pc + 1, L, .int (x ||| y) :: r)
    | _ => none
  | .ixor => match st with
    | .int y :: .int x :: r => some (pc + 1, L, .int (x ^^^ y) :: r)
    | _ => none
  | .ishl => match st with
    | .int y :: .int x :: r => some (pc + 1, L, .int (x <<< (y &&& 31)) :: r)
    | _ => none
  | .ishr => match st with
    | .int y :: .int x :: r => some (pc + 1, L, .int (x >>> (y &&& 31)) :: r)
    | _ => none
  | .idiv => match st with
    | .int y :: .int x :: r => if y = 0 then none else some (pc + 1, L, .int (x / y) :: r)
    | _ => none
  | .irem => match st with
    | .int y :: .int x :: r => if y = 0 then none else some (pc + 1, L, .int (x - x / y * y) :: r)
    | _ => none
  | .i2l => match st with
    | .int x :: r => some (pc + 1, L, .long x.toInt64 :: r)
    | _ => none
  | .l2i => match st with
    | .long x :: r => some (pc + 1, L, .int x.toInt32 :: r)
    | _ => none
  | .lcmp => match st with
    | .long y :: .long x :: r => some (pc + 1, L, .int (lg_cmp x y) :: r)
    | _ => none
  | .dup => match st with
    | v :: r => if v.category = 1 then some (pc + 1, L, v :: v :: r) else none
    | _ => none
  | .pop => match st with
    | v :: r => if v.category = 1 then some (pc + 1, L, r) else none
    | _ => none
  | .pop2 => match st with
    | v :: r => if v.category = 2 then some (pc + 1, L, r) else none
    | _ => none
  | .dup_x1 => match st with
    | v :: w :: r => if v.category = 1 ∧ w.category = 1 then some (pc + 1, L, v :: w :: v :: r) else none
    | _ => none
  | .dup2 => match st with
    | v :: w :: r => if v.category = 1 ∧ w.category = 1 then some (pc + 1, L, v :: w :: v :: w :: r) else none
    | _ => none
  | .ifCond c off => match st with
    | .int x :: r => ai_j (ai_c c x 0) pc off L r
    | _ => none
  | .if_icmp c off => match st with
    | .int y :: .int x :: r => ai_j (ai_c c x y) pc off L r
    | _ => none
  | .goto off => ai_to pc off L st
  | .tableswitch dflt lo hi offs => match st with
    | .int x :: r => if x.toInt < lo ∨ hi < x.toInt then ai_to pc dflt L r else (match offs[(x.toInt - lo).toNat]? with
      | some off => ai_to pc off L r
      | none => none)
    | _ => none
  | .lookupswitch dflt ps => match st with
    | .int x :: r => if (ps.toList.zip (ps.toList.drop 1)).all (fun (a, next) => a.1 < next.1) = true then ai_to pc (Op.lookupswitch.offset ps.toList dflt x.toInt) L r else none
    | _ => none
  | _ => none
def ai_fit (ty : FieldType) (v : Value) : Bool := match ty, v with
  | .int, .int _ => true
  | .boolean, .int x => decide (x = 0) || decide (x = 1)
  | .long, .long _ => true
  | .object _, .ref _ => true
  | .array _, .ref _ => true
  | _, _ => false
end
section
abbrev ai_X : Type := List (Nat × (Nat → Int32))
def ai_ft (a b : Nat) : Option FieldType := match ai_fts[a]? with
  | some l => l[b]?
  | none => none
def ai_at (r : ai_R) (pc : Nat) : Option ai_N := match r.2.2.2.2.2.2[pc / 16]? with
  | some ch => (match ch[pc % 16]? with
    | some x => x
    | none => none)
  | none => none
def ai_ial (X : ai_X) (M : List va_E) (k : Nat) (i : Int32) : Option Value := match Nat.ble ai_B k with
  | true => (match X[k - ai_B]? with
    | some (n, f) => (match ai_in i n with
      | true => some (.int (f i.toNatClampNeg))
      | false => none)
    | none => none)
  | false => (match M[k]? with
    | some (.inl (0, n, .inl f)) => (match ai_in i n with
      | true => some (.int (f i.toNatClampNeg))
      | false => none)
    | _ => none)
def ai_len2 (X : ai_X) (M : List va_E) (k : Nat) : Option Value := match Nat.ble ai_B k with
  | true => (match X[k - ai_B]? with
    | some (n, _) => some (.int (Int32.ofNat n))
    | none => none)
  | false => (match M[k]? with
    | some (.inl (t, n, _)) => (match Nat.blt t 4 with
      | true => some (.int (Int32.ofNat n))
      | false => none)
    | _ => none)
def ai_ret3 (x : Option Value) (dp : Nat) (r : List Value) (M : List va_E) : Option (Nat × List Value × List va_E) := match x with
  | some v => some (dp, v :: r, M)
  | none => none
/-- instructions on the memory that make nothing new -/
def ai_m (X : ai_X) (i : ClassFile.Instr) (a b : Nat) (st : List Value) (M : List va_E) : Option (Nat × List Value × List va_E) := match i with
  | .getfield _ => match st with
    | .ref k :: r => (match M[k]? with
      | some (.inr (ci, fs)) => (match Nat.beq ci a with
        | true => ai_ret3 fs[b]? 3 r M
        | false => none)
      | _ => none)
    | _ => none
  | .putfield _ => match st with
    | v :: .ref k :: r => (match M[k]? with
      | some (.inr (ci, fs)) => (match Nat.beq ci a && Nat.blt b fs.length && (match ai_ft a b with
          | some ty => ai_fit ty v
          | none => false) with
        | true => some (3, r, M.set k (.inr (ci, fs.set b v)))
        | false => none)
      | _ => none)
    | _ => none
  | .getstatic _ => some (3, .ref (ai_B + a) :: st, M)
  | .ldc2_w _ => some (3, .long (Int64.ofNat a) :: st, M)
  | .iaload => match st with
    | .int i :: .ref k :: r => ai_ret3 (ai_ial X M k i) 1 r M
    | _ => none
  | .baload => match st with
    | .int i :: .ref k :: r => (match M[k]? with
      | some (.inl (1, n, .inl f)) => (match ai_in i n with
        | true => some (1, .int (f i.toNatClampNeg) :: r, M)
        | false => none)
      | _ => none)
    | _ => none
  | .laload => match st with
    | .int i :: .ref k :: r => (match M[k]? with
      | some (.inl (2, n, .inr (.inl f))) => (match ai_in i n with
        | true => some (1, .long (f i.toNatClampNeg) :: r, M)
        | false => none)
      | _ => none)
    | _ => none
  | .aaload => match st with
    | .int i :: .ref k :: r => (match M[k]? with
      | some (.inl (3, n, .inr (.inr (.inr (.inr f))))) => (match ai_in i n with
        | true => some (1, va_rf (f i.toNatClampNeg) :: r, M)
        | false => none)
      | _ => none)
    | _ => none
  | .iastore => match st with
    | .int x :: .int i :: .ref k :: r => (match M[k]? with
      | some (.inl (0, n, .inl f)) => (match ai_in i n with
        | true => some (1, r, M.set k (.inl (0, n, .inl (upd f i.toNatClampNeg x))))
        | false => none)
      | _ => none)
    | _ => none
  | .bastore => match st with
    | .int x :: .int i :: .ref k :: r => (match M[k]? with
      | some (.inl (1, n, .inl f)) => (match ai_in i n with
        | true => some (1, r, M.set k (.inl (1, n, .inl (upd f i.toNatClampNeg (vp_nar .boolean x)))))
        | false => none)
      | _ => none)
    | _ => none
  | .lastore => match st with
    | .long x :: .int i :: .ref k :: r => (match M[k]? with
      | some (.inl (2, n, .inr (.inl f))) => (match ai_in i n with
        | true => some (1, r, M.set k (.inl (2, n, .inr (.inl (vp_updL f i.toNatClampNeg x)))))
        | false => none)
      | _ => none)
    | _ => none
  | .aastore => match st with
    | .ref v :: .int i :: .ref k :: r => (match M[k]?, M[v]? with
      | some (.inl (3, n, .inr (.inr (.inr (.inr f))))), some (.inr (0, _)) => (match ai_in i n with
        | true => some (1, r, M.set k (.inl (3, n, .inr (.inr (.inr (.inr (va_up f i.toNatClampNeg (some v))))))))
        | false => none)
      | _, _ => none)
    | _ => none
  | .arraylength => match st with
    | .ref k :: r => ai_ret3 (ai_len2 X M k) 1 r M
    | _ => none
  | _ => none
/-- what is made new: length of the instruction, stack, the cell, its slots -/
def ai_a (i : ClassFile.Instr) (a : Nat) (st : List Value) : Option (Nat × List Value × va_E × Nat) := match i with
  | .newarray .int => match st with
    | .int n :: r => (match decide (n < 0) || Nat.blt 1000 n.toNatClampNeg with
      | true => none
      | false => some (2, r, .inl (0, n.toNatClampNeg, .inl (fun _ => 0)), n.toNatClampNeg))
    | _ => none
  | .newarray .boolean => match st with
    | .int n :: r => (match decide (n < 0) || Nat.blt 1000 n.toNatClampNeg with
      | true => none
      | false => some (2, r, .inl (1, n.toNatClampNeg, .inl (fun _ => 0)), n.toNatClampNeg))
    | _ => none
  | .newarray .long => match st with
    | .int n :: r => (match decide (n < 0) || Nat.blt 1000 n.toNatClampNeg with
      | true => none
      | false => some (2, r, .inl (2, n.toNatClampNeg, .inr (.inl (fun _ => 0))), n.toNatClampNeg))
    | _ => none
  | .anewarray _ => match st with
    | .int n :: r => (match decide (n < 0) || Nat.blt 1000 n.toNatClampNeg with
      | true => none
      | false => some (3, r, .inl (3, n.toNatClampNeg, .inr (.inr (.inr (.inr (fun _ => none))))), n.toNatClampNeg))
    | _ => none
  | .new _ => match ai_dfs[a]? with
    | some fs => some (3, st, .inr (a, fs), fs.length)
    | none => none
  | _ => none
def ai_cat (st : List Value) : Nat := (st.map fun v => v.category).sum
/-- Object.<init> and System.arraycopy -/
def ai_z (i : ClassFile.Instr) (a : Nat) (st : List Value) (M : List va_E) : Option (List Value × List va_E) := match i with
  | .invokespecial _ => match Nat.beq a 9, st with
    | true, .ref _ :: r => (match Nat.ble (ai_cat r) 8 with
      | true => some (r, M)
      | false => none)
    | _, _ => none
  | .invokestatic _ => match Nat.beq a 8, st with
    | true, .int n :: .int dp :: .ref k1 :: .int sp :: .ref k0 :: r => (match Nat.ble (ai_cat r) 8 && !(decide (sp < 0)) && !(decide (dp < 0)) && !(decide (n < 0)) with
      | true => (match M[k0]?, M[k1]? with
        | some (.inl (0, n0, .inl f)), some (.inl (0, n1, .inl g)) => (match Nat.ble (sp.toNatClampNeg + n.toNatClampNeg) n0 && Nat.ble (dp.toNatClampNeg + n.toNatClampNeg) n1 with
          | true => some (r, M.set k1 (.inl (0, n1, .inl (va_cpy f g sp.toNatClampNeg dp.toNatClampNeg n.toNatClampNeg))))
          | false => none)
        | some (.inl (2, n0, .inr (.inl f))), some (.inl (2, n1, .inr (.inl g))) => (match Nat.ble (sp.toNatClampNeg + n.toNatClampNeg) n0 && Nat.ble (dp.toNatClampNeg + n.toNatClampNeg) n1 with
          | true => some (r, M.set k1 (.inl (2, n1, .inr (.inl (va_cpy f g sp.toNatClampNeg dp.toNatClampNeg n.toNatClampNeg)))))
          | false => none)
        | _, _ => none)
      | false => none)
    | _, _ => none
  | _ => none
/-- a call: the callee's row, its arguments, what is left on the stack -/
def ai_q (i : ClassFile.Instr) (a b : Nat) (st : List Value) (M : List va_E) : Option (ai_R × List Value × List Value) := match i with
  | .invokevirtual _ => match ai_ms[b]? with
    | some r => (match (st.take r.2.2.2.2.2.1).reverse with
      | .ref k :: As => (match M[k]? with
        | some (.inr (ci, _)) => (match Nat.beq ci r.1 && Nat.beq (As.length + 1) r.2.2.2.2.2.1 with
          | true => some (r, .ref k :: As, st.drop r.2.2.2.2.2.1)
          | false => none)
        | _ => none)
      | _ => none)
    | none => none
  | .invokespecial _ => match Nat.beq a 9, ai_ms[b]? with
    | false, some r => (match (st.take r.2.2.2.2.2.1).reverse with
      | .ref k :: As => (match Nat.beq (As.length + 1) r.2.2.2.2.2.1 with
        | true => some (r, .ref k :: As, st.drop r.2.2.2.2.2.1)
        | false => none)
      | _ => none)
    | _, _ => none
  | .invokestatic _ => match Nat.beq a 8, ai_ms[b]? with
    | false, some r => (match Nat.beq (st.take r.2.2.2.2.2.1).length r.2.2.2.2.2.1 with
      | true => some (r, (st.take r.2.2.2.2.2.1).reverse, st.drop r.2.2.2.2.2.1)
      | false => none)
    | _, _ => none
  | _ => none
/-- the answer, at a return -/
def ai_ans (i : ClassFile.Instr) (ty : Option FieldType) (st : List Value) : Option (Option Value) := match i with
  | .return_ => match ty, st with
    | none, [] => some none
    | _, _ => none
  | .ireturn => match ty, st with
    | some .int, [.int v] => some (some (.int v))
    | some .boolean, [.int v] => (match decide (v = 0) || decide (v = 1) with
      | true => some (some (.int v))
      | false => none)
    | _, _ => none
  | .lreturn => match ty, st with
    | some .long, [.long v] => some (some (.long v))
    | _, _ => none
  | .areturn => match ty, st with
    | some (.array _), [.ref v] => some (some (.ref v))
    | _, _ => none
  | _ => none
abbrev ai_O : Type := Option (Nat × Option Value × List va_E × Nat × Nat)
/-- fuel, frames, words of the stack left; the method, its place, locals, stack; the memory; cells and slots made so far -/
def ai_x (X : ai_X) : Nat → Nat → Nat → ai_R → Nat → List (Option Value) → List Value → List va_E → Nat → Nat → ai_O
  | 0, _, _, _, _, _, _, _, _, _ => none
  | n + 1, d, w, r, pc, L0, st, M, c, s => match ai_at r pc with
    | none => none
    | some (i, a, b, bm) => match ai_s i pc r.2.2.2.1 (ai_mk bm L0) st with
      | some (pc', L, st') => ai_x X n d w r pc' L st' M c s
      | none => match ai_m X i a b st M with
        | some (dp, st', M') => ai_x X n d w r (pc + dp) (ai_mk bm L0) st' M' c s
        | none => match ai_ans i r.2.2.2.2.1 st with
          | some v => some (pc, v, M, c, s)
          | none => match ai_q i a b st M with
            | some (r', As, rest) => (match Nat.blt 0 d && Nat.ble (19 + r'.2.2.2.1) w && Nat.ble (ai_cat rest) 8 && Nat.ble (ai_cat As) r'.2.2.2.1 && (ai_mk bm L0).all (ai_kl M.length) && rest.all (ai_k M.length) with
              | true => (match ai_x X n (d - 1) (w - (19 + r'.2.2.2.1)) r' 0 (ai_en r'.2.2.2.1 As) [] M 0 0 with
                | some (_, v, M', kc, ks) => ai_x X n d w r (pc + 3) (ai_mk bm L0) (v.toList ++ rest) M' (c + kc) (s + ks)
                | none => none)
              | false => none)
            | none => match ai_z i a st M with
              | some (st', M') => (match Nat.blt 0 d && Nat.ble 32 w with
                | true => ai_x X n d w r (pc + 3) (ai_mk bm L0) st' M' c s
                | false => none)
              | none => match ai_a i a st with
                | some (dp, st', e, ds) => (match Nat.blt M.length ai_B && M.all (ai_ke M.length) && (ai_mk bm L0).all (ai_kl M.length) && st'.all (ai_k M.length) with
                  | true => ai_x X n d w r (pc + dp) (ai_mk bm L0) (.ref M.length :: st') (M ++ [e]) (c + 1) (s + ds)
                  | false => none)
                | none => none
end
section
theorem ai_cat_v (ad : Nat → Nat) (v : Value) : (ai_v ad v).category = v.category := by cases v <;> rfl
theorem ai_cat_map (ad : Nat → Nat) (st : List Value) : ((st.map (ai_v ad)).map fun v => v.category).sum = ai_cat st := by
  unfold ai_cat
  rw [List.map_map]
  congr 1
  apply List.map_congr_left
  intro v _
  exact ai_cat_v ad v
theorem ai_w_get (ad : Nat → Nat) (ac : Nat → ClassId) (M : List va_E) (k : Nat) : (ai_w ad ac M)[k]? = (M[k]?).map (fun e => (ad k, ai_e ad ac e)) := by
  unfold ai_w
  rw [List.getElem?_mapIdx]
theorem ai_w_at {ad : Nat → Nat} {ac : Nat → ClassId} {M : List va_E} {k : Nat} {e : va_E} (h : M[k]? = some e) : (ai_w ad ac M)[k]? = some (ad k, ai_e ad ac e) := by
  rw [ai_w_get, h]; rfl
theorem ai_w_set {ad : Nat → Nat} {ac : Nat → ClassId} {M : List va_E} {k : Nat} {e : va_E} : (ai_w ad ac M).set k (ad k, ai_e ad ac e) = ai_w ad ac (M.set k e) := by
  apply List.ext_getElem?
  intro j
  rw [ai_w_get]
  by_cases hj : k = j
  · subst hj
    by_cases hl : k < M.length
    · rw [List.getElem?_set_self (by unfold ai_w; simpa using hl), List.getElem?_set_self hl]; rfl
    · rw [List.getElem?_eq_none (by unfold ai_w; simp; omega), List.getElem?_eq_none (by simp; omega)]; rfl
  · rw [List.getElem?_set_ne hj, List.getElem?_set_ne hj, ai_w_get]
/-- two maps of addresses agree below n and on the tables -/
def ai_ex (ad ad' : Nat → Nat) (n : Nat) : Prop := ∀ k, k < n ∨ ai_B ≤ k → ad' k = ad k
theorem ai_ex.rf {ad : Nat → Nat} {n : Nat} : ai_ex ad ad n := fun _ _ => rfl
theorem ai_ex.tr {a b c : Nat → Nat} {n m : Nat} (h1 : ai_ex a b n) (h2 : ai_ex b c m) (hn : n ≤ m) : ai_ex a c n := fun k hk => (h2 k (by rcases hk with h | h; exact Or.inl (by omega); exact Or.inr h)).trans (h1 k hk)
theorem ai_k_ref {n k : Nat} (h : (Nat.blt k n || Nat.ble ai_B k) = true) : k < n ∨ ai_B ≤ k := by
  rcases Bool.or_eq_true_iff.mp h with h | h
  · exact Or.inl (Nat.le_of_ble_eq_true h)
  · exact Or.inr (Nat.le_of_ble_eq_true h)
theorem ai_ex_v {ad ad' : Nat → Nat} {n : Nat} (h : ai_ex ad ad' n) {v : Value} (hk : ai_k n v = true) : ai_v ad' v = ai_v ad v := by
  cases v with
  | ref k => show Value.ref _ = Value.ref _; rw [h k (ai_k_ref hk)]
  | _ => rfl
theorem ai_ex_st {ad ad' : Nat → Nat} {n : Nat} (h : ai_ex ad ad' n) {st : List Value} (hk : st.all (ai_k n) = true) : st.map (ai_v ad') = st.map (ai_v ad) := by
  apply List.map_congr_left
  intro v hv
  exact ai_ex_v h (List.all_eq_true.mp hk v hv)
theorem ai_ex_l {ad ad' : Nat → Nat} {n : Nat} (h : ai_ex ad ad' n) : ∀ (L : List (Option Value)) (i : Nat), L.all (ai_kl n) = true → ai_l ad' i L = ai_l ad i L
  | [], _, _ => rfl
  | none :: t, i, hk => by
    simp only [List.all_cons, Bool.and_eq_true] at hk
    exact ai_ex_l h t (i + 1) hk.2
  | some v :: t, i, hk => by
    simp only [List.all_cons, Bool.and_eq_true] at hk
    show (i, ai_v ad' v) :: ai_l ad' (i + 1) t = (i, ai_v ad v) :: ai_l ad (i + 1) t
    rw [ai_ex_v h hk.1, ai_ex_l h t (i + 1) hk.2]
theorem ai_ex_e {ad ad' : Nat → Nat} {ac : Nat → ClassId} {n : Nat} (h : ai_ex ad ad' n) {e : va_E} (hk : ai_ke n e = true) : ai_e ad' ac e = ai_e ad ac e := by
  rcases e with ⟨t, len, f | f | f | f | f⟩ | ⟨ci, fs⟩
  · rfl
  · rfl
  · rfl
  · rfl
  · show (Sum.inl _ : va_E) = Sum.inl _
    congr 7
    funext i
    by_cases hi : i < len
    · rw [if_pos hi, if_pos hi]
      have := List.all_eq_true.mp hk i (List.mem_range.mpr hi)
      cases hf : f i with
      | none => rfl
      | some k =>
        rw [hf] at this
        show some (ad' k) = some (ad k)
        rw [h k (ai_k_ref this)]
    · rw [if_neg hi, if_neg hi]
  · show (Sum.inr _ : va_E) = Sum.inr _
    rw [ai_ex_st h hk]
theorem ai_w_push {ad : Nat → Nat} {ac : Nat → ClassId} {M : List va_E} {e e' : va_E} {q : Nat} (hB : M.length < ai_B) (hM : M.all (ai_ke M.length) = true) (he : ai_e (va_up ad M.length q) ac e = e') : ai_ex ad (va_up ad M.length q) M.length ∧ ai_w ad ac M ++ [(q, e')] = ai_w (va_up ad M.length q) ac (M ++ [e]) := by
  have hx : ai_ex ad (va_up ad M.length q) M.length := fun k hk => by
    unfold va_up
    rw [if_neg (by rcases hk with h | h <;> omega)]
  refine ⟨hx, ?_⟩
  apply List.ext_getElem?
  intro j
  rw [ai_w_get]
  have hlen : (ai_w ad ac M).length = M.length := by unfold ai_w; simp
  by_cases hj : j < M.length
  · rw [List.getElem?_append_left (by omega), List.getElem?_append_left hj, ai_w_get]
    cases hm : M[j]? with
    | none => rfl
    | some z =>
      show some (ad j, ai_e ad ac z) = some (va_up ad M.length q j, ai_e (va_up ad M.length q) ac z)
      rw [hx j (Or.inl hj), ai_ex_e hx (List.all_eq_true.mp hM z (List.mem_of_getElem? hm))]
  · rw [List.getElem?_append_right (by omega), List.getElem?_append_right (by omega), hlen]
    by_cases hj2 : j = M.length
    · subst hj2
      rw [Nat.sub_self, List.getElem?_cons_zero, List.getElem?_cons_zero]
      show some (q, e') = some (va_up ad M.length q M.length, ai_e (va_up ad M.length q) ac e)
      rw [he]
      unfold va_up
      rw [if_pos rfl]
    · rw [List.getElem?_eq_none (by simp; omega), List.getElem?_eq_none (by simp; omega)]; rfl
/-! locals -/
theorem ai_g_mem {ad : Nat → Nat} : ∀ (L : List (Option Value)) (k i : Nat) (v : Value), ai_g L k = some v → (i + k, ai_v ad v) ∈ ai_l ad i L
  | [], _, _, _, h => by cases h
  | x :: t, 0, i, v, h => by
    have h : x = some v := h
    subst h
    exact List.mem_cons_self
  | none :: t, k + 1, i, v, h => by
    have := ai_g_mem (ad := ad) t k (i + 1) v h
    rw [show i + (k + 1) = i + 1 + k by omega]
    exact this
  | some w :: t, k + 1, i, v, h => by
    have := ai_g_mem (ad := ad) t k (i + 1) v h
    rw [show i + (k + 1) = i + 1 + k by omega]
    exact List.mem_cons_of_mem _ this
theorem ai_l_mem {ad : Nat → Nat} : ∀ (L : List (Option Value)) (i : Nat) (q : Nat × Value), q ∈ ai_l ad i L → ∃ k v, q = (i + k, ai_v ad v) ∧ ai_g L k = some v
  | [], _, _, h => by cases h
  | none :: t, i, q, h => by
    obtain ⟨k, v, h1, h2⟩ := ai_l_mem t (i + 1) q h
    exact ⟨k + 1, v, by rw [h1, show i + (k + 1) = i + 1 + k by omega], h2⟩
  | some w :: t, i, q, h => by
    rcases List.mem_cons.mp h with h | h
    · exact ⟨0, w, h, rfl⟩
    · obtain ⟨k, v, h1, h2⟩ := ai_l_mem t (i + 1) q h
      exact ⟨k + 1, v, by rw [h1, show i + (k + 1) = i + 1 + k by omega], h2⟩
theorem ai_lh {ls : Array Slot} {nL : Nat} {ad : Nat → Nat} {L : List (Option Value)} (h : lv_has ls nL (ai_l ad 0 L)) {k : Nat} {v : Value} (hg : ai_g L k = some v) : ls[k]? = some (.val (ai_v ad v)) := by
  have := ai_g_mem (ad := ad) L k 0 v hg
  rw [Nat.zero_add] at this
  exact h.2.2 _ this
theorem ai_lsub {ls : Array Slot} {nL : Nat} {ad : Nat → Nat} {L : List (Option Value)} {l : List (Nat × Value)} (h : lv_has ls nL l) (hs : ∀ k v, ai_g L k = some v → (k, ai_v ad v) ∈ l) : lv_has ls nL (ai_l ad 0 L) := by
  refine ⟨h.1, h.2.1, fun q hq => ?_⟩
  obtain ⟨k, v, rfl, hg⟩ := ai_l_mem L 0 q hq
  rw [Nat.zero_add]
  exact h.2.2 _ (hs k v hg)
theorem ai_mk_g : ∀ (b : List Bool) (L : List (Option Value)) (k : Nat) (v : Value), ai_g (ai_mk b L) k = some v → ai_g L k = some v
  | [], _, _, _, h => h
  | _ :: _, [], _, _, h => by cases h
  | true :: b, x :: t, 0, v, h => h
  | false :: b, x :: t, 0, v, h => by cases h
  | true :: b, x :: t, k + 1, v, h => ai_mk_g b t k v h
  | false :: b, x :: t, k + 1, v, h => ai_mk_g b t k v h
theorem ai_lmk {ls : Array Slot} {nL : Nat} {ad : Nat → Nat} {L : List (Option Value)} (b : List Bool) (h : lv_has ls nL (ai_l ad 0 L)) : lv_has ls nL (ai_l ad 0 (ai_mk b L)) :=
  ai_lsub h (fun k v hg => by have := ai_g_mem (ad := ad) L k 0 v (ai_mk_g b L k v hg); rw [Nat.zero_add] at this; exact this)
theorem ai_s1_g (w : Value) : ∀ (i : Nat) (L : List (Option Value)) (k : Nat) (v : Value), ai_g (ai_s1 w i L) k = some v → (k = i ∧ v = w) ∨ (k ≠ i ∧ ai_g L k = some v ∧ (k + 1 = i → v.category = 1))
  | i, [], k, v, h => by cases i with | zero => cases h | succ i => cases i <;> cases h
  | 0, x :: t, 0, v, h => by
    have h : some w = some v := h
    cases h
    exact Or.inl ⟨rfl, rfl⟩
  | 0, x :: t, k + 1, v, h => Or.inr ⟨by omega, h, fun q => by omega⟩
  | 1, x :: t, 0, v, h => by
    refine Or.inr ⟨by omega, ?_, fun _ => ?_⟩
    · have h : ai_f1 x = some v := h
      show x = some v
      rcases x with _ | x
      · exact h
      · cases x <;> first | exact h | cases h
    · have h : ai_f1 x = some v := h
      rcases x with _ | x
      · cases h
      · cases x <;> cases h <;> rfl
  | 1, x :: t, k + 1, v, h => by
    rcases ai_s1_g w 0 t k v h with ⟨h1, h2⟩ | ⟨h1, h2, h3⟩
    · exact Or.inl ⟨by omega, h2⟩
    · exact Or.inr ⟨by omega, h2, fun q => by omega⟩
  | n + 2, x :: t, 0, v, h => Or.inr ⟨by omega, h, fun q => by omega⟩
  | n + 2, x :: t, k + 1, v, h => by
    rcases ai_s1_g w (n + 1) t k v h with ⟨h1, h2⟩ | ⟨h1, h2, h3⟩
    · exact Or.inl ⟨by omega, h2⟩
    · exact Or.inr ⟨by omega, h2, fun q => h3 (by omega)⟩
theorem ai_s2_g (w : Value) : ∀ (i : Nat) (L : List (Option Value)) (k : Nat) (v : Value), ai_g (ai_s2 w i L) k = some v → (k = i ∧ v = w) ∨ (k ≠ i ∧ k ≠ i + 1 ∧ ai_g L k = some v ∧ (k + 1 = i → v.category = 1))
  | i, [], k, v, h => by cases i with | zero => cases h | succ i => cases i <;> cases h
  | 0, [x], k, v, h => by cases h
  | 0, x :: y :: t, 0, v, h => by
    have h : some w = some v := h
    cases h
    exact Or.inl ⟨rfl, rfl⟩
  | 0, x :: y :: t, 1, v, h => by cases h
  | 0, x :: y :: t, k + 2, v, h => Or.inr ⟨by omega, by omega, h, fun q => by omega⟩
  | 1, x :: t, 0, v, h => by
    refine Or.inr ⟨by omega, by omega, ?_, fun _ => ?_⟩
    · have h : ai_f1 x = some v := by cases t <;> exact h
      show x = some v
      rcases x with _ | x
      · exact h
      · cases x <;> first | exact h | cases h
    · have h : ai_f1 x = some v := by cases t <;> exact h
      rcases x with _ | x
      · cases h
      · cases x <;> cases h <;> rfl
  | 1, x :: t, k + 1, v, h => by
    have h : ai_g (ai_s2 w 0 t) k = some v := by cases t <;> exact h
    rcases ai_s2_g w 0 t k v h with ⟨h1, h2⟩ | ⟨h1, h2, h3, h4⟩
    · exact Or.inl ⟨by omega, h2⟩
    · refine Or.inr ⟨by omega, by omega, ?_, fun q => by omega⟩
      exact h3
  | n + 2, x :: t, 0, v, h => by
    have h : x = some v := by cases t <;> exact h
    exact Or.inr ⟨by omega, by omega, h, fun q => by omega⟩
  | n + 2, x :: t, k + 1, v, h => by
    have h : ai_g (ai_s2 w (n + 1) t) k = some v := by cases t <;> exact h
    rcases ai_s2_g w (n + 1) t k v h with ⟨h1, h2⟩ | ⟨h1, h2, h3, h4⟩
    · exact Or.inl ⟨by omega, h2⟩
    · exact Or.inr ⟨by omega, by omega, h3, fun q => h4 (by omega)⟩
theorem ai_store1 {ls' : Array Slot} {nL i : Nat} {ad : Nat → Nat} {L : List (Option Value)} {w : Value} (h : lv_has ls' nL ((i, ai_v ad w) :: (ai_l ad 0 L).filter (fun q => !(q.1 == i) && !(q.1 + 1 == i && q.2.category == 2)))) : lv_has ls' nL (ai_l ad 0 (ai_s1 w i L)) := by
  refine ai_lsub h (fun k v hg => ?_)
  rcases ai_s1_g w i L k v hg with ⟨rfl, rfl⟩ | ⟨h1, h2, h3⟩
  · exact List.mem_cons_self
  · refine List.mem_cons_of_mem _ (List.mem_filter.mpr ⟨by have := ai_g_mem (ad := ad) L k 0 v h2; rw [Nat.zero_add] at this; exact this, ?_⟩)
    simp only [Bool.and_eq_true, Bool.not_eq_true', beq_eq_false_iff_ne, ne_eq, Bool.and_eq_false_iff]
    refine ⟨h1, ?_⟩
    by_cases hk : k + 1 = i
    · right; rw [ai_cat_v, h3 hk]; decide
    · left; exact hk
theorem ai_store2 {ls' : Array Slot} {nL i : Nat} {ad : Nat → Nat} {L : List (Option Value)} {w : Value} (h : lv_has ls' nL ((i, ai_v ad w) :: (ai_l ad 0 L).filter (fun q => !(q.1 == i) && (!(q.1 == i + 1) && !(q.1 + 1 == i && q.2.category == 2))))) : lv_has ls' nL (ai_l ad 0 (ai_s2 w i L)) := by
  refine ai_lsub h (fun k v hg => ?_)
  rcases ai_s2_g w i L k v hg with ⟨rfl, rfl⟩ | ⟨h1, h2, h3, h4⟩
  · exact List.mem_cons_self
  · refine List.mem_cons_of_mem _ (List.mem_filter.mpr ⟨by have := ai_g_mem (ad := ad) L k 0 v h3; rw [Nat.zero_add] at this; exact this, ?_⟩)
    simp only [Bool.and_eq_true, Bool.not_eq_true', beq_eq_false_iff_ne, ne_eq, Bool.and_eq_false_iff]
    refine ⟨h1, h2, ?_⟩
    by_cases hk : k + 1 = i
    · right; rw [ai_cat_v, h4 hk]; decide
    · left; exact hk
theorem ai_en_g {ad : Nat → Nat} : ∀ (n : Nat) (vs : List Value) (i k : Nat) (v : Value), ai_g (ai_en n vs) k = some v → (i + k, ai_v ad v) ∈ lv_args i (vs.map (ai_v ad))
  | 0, _, _, _, _, h => by cases h
  | n + 1, [], i, 0, v, h => by cases h
  | n + 1, [], i, k + 1, v, h => by
    have := ai_en_g (ad := ad) n [] (i + 1) k v h
    cases this
  | n + 1, u :: t, i, k, v, h => by
    cases u with
    | long x =>
      cases k with
      | zero =>
        have h : some (Value.long x) = some v := by cases n <;> exact h
        cases h
        exact List.mem_cons_self
      | succ k =>
        cases n with
        | zero => cases h
        | succ n =>
          cases k with
          | zero => cases h
          | succ k =>
            have := ai_en_g (ad := ad) n t (i + 2) k v h
            refine List.mem_cons_of_mem _ ?_
            rw [show i + (k + 1 + 1) = i + 2 + k by omega]
            exact this
    | double x => cases h
    | _ =>
      cases k with
      | zero =>
        cases h
        exact List.mem_cons_self
      | succ k =>
        have := ai_en_g (ad := ad) n t (i + 1) k v h
        refine List.mem_cons_of_mem _ ?_
        rw [show i + (k + 1) = i + 1 + k by omega]
        exact this
theorem ai_sl_len (vs : List Value) : (lg_sl vs).length = ai_cat vs := by
  induction vs with
  | nil => rfl
  | cons v t ih =>
    have h1 : ai_cat (v :: t) = v.category + ai_cat t := rfl
    have h2 : lg_sl (v :: t) = (if v.category = 2 then [.val v, .second] else [.val v]) ++ lg_sl t := rfl
    rw [h1, h2, List.length_append, ih]
    rcases lv_cat v with h | h <;> simp [h]
theorem ai_entry {ad : Nat → Nat} {n : Nat} {vs : List Value} (h : ai_cat vs ≤ n) : lv_has ((lg_sl (vs.map (ai_v ad)) ++ List.replicate (n - (lg_sl (vs.map (ai_v ad))).length) Slot.unset).toArray) n (ai_l ad 0 (ai_en n vs)) := by
  have h1 : ai_cat (vs.map (ai_v ad)) = ai_cat vs := ai_cat_map ad vs
  refine ai_lsub (lv_entry (vs.map (ai_v ad)) (n := n) (by rw [ai_sl_len, h1]; exact h)) (fun k v hg => ?_)
  have := ai_en_g (ad := ad) n vs 0 k v hg
  rw [Nat.zero_add] at this
  exact this
end
section
theorem ai_ld_I {o : Option Value} {a pc' : Nat} {L L' : List (Option Value)} {st st' : List Value} (h : ai_ld (ai_isI o) a L st = some (pc', L', st')) : ∃ x, o = some (.int x) ∧ pc' = a ∧ L' = L ∧ st' = .int x :: st := by
  rcases o with _ | v
  · cases h
  · cases v <;> cases h
    exact ⟨_, rfl, rfl, rfl, rfl⟩
theorem ai_ld_L {o : Option Value} {a pc' : Nat} {L L' : List (Option Value)} {st st' : List Value} (h : ai_ld (ai_isL o) a L st = some (pc', L', st')) : ∃ x, o = some (.long x) ∧ pc' = a ∧ L' = L ∧ st' = .long x :: st := by
  rcases o with _ | v
  · cases h
  · cases v <;> cases h
    exact ⟨_, rfl, rfl, rfl, rfl⟩
theorem ai_ld_R {o : Option Value} {a pc' : Nat} {L L' : List (Option Value)} {st st' : List Value} (h : ai_ld (ai_isR o) a L st = some (pc', L', st')) : (∃ x, o = some (.ref x) ∧ pc' = a ∧ L' = L ∧ st' = .ref x :: st) ∨ (o = some .null ∧ pc' = a ∧ L' = L ∧ st' = .null :: st) := by
  rcases o with _ | v
  · cases h
  · cases v <;> cases h
    · exact Or.inr ⟨rfl, rfl, rfl, rfl⟩
    · exact Or.inl ⟨_, rfl, rfl, rfl, rfl⟩
theorem ai_to_ok {pc pc' : Nat} {off : Int} {L L' : List (Option Value)} {st st' : List Value} (h : ai_to pc off L st = some (pc', L', st')) : (pc : Int) + off = (pc' : Int) ∧ L' = L ∧ st' = st := by
  unfold ai_to at h
  split at h
  · next t e => cases h; exact ⟨e, rfl, rfl⟩
  · cases h
theorem ai_j_ok {b : Bool} {pc pc' : Nat} {off : Int} {L L' : List (Option Value)} {st st' : List Value} (h : ai_j b pc off L st = some (pc', L', st')) : ∃ t : Nat, (pc : Int) + off = (t : Int) ∧ L' = L ∧ st' = st ∧ ((b = true ∧ pc' = t) ∨ (b = false ∧ pc' = pc + 3)) := by
  unfold ai_j at h
  split at h
  · next t e =>
    cases b with
    | true => cases h; exact ⟨_, e, rfl, rfl, Or.inl ⟨rfl, rfl⟩⟩
    | false => cases h; exact ⟨_, e, rfl, rfl, Or.inr ⟨rfl, rfl⟩⟩
  · cases h
section AIS
variable {p : Program} {l : Launch} {e : Env} {R : Room} {s : State} {m : MethodId} {args : Array Value} {below : List Frame} {meth : Method} {c : Code} {H : Heap} {locs : List Loc} {cells slots : Nat} {Q : State → Prop}
set_option maxHeartbeats 4000000 in
theorem ai_s_ok {cc : ByteArray} (hx : p.tables.exec = Jvm.exec) (hb : c.code = cc) {i : ClassFile.Instr} {pc pc' nL len : Nat} {L L' : List (Option Value)} {st st' : List Value} {ad : Nat → Nat} {ls : Array Slot} (hs : ai_s i pc nL L st = some (pc', L', st')) (hd : decode cc pc = .ok (i, len)) (hlen : len = ai_len i ∨ ai_len i = 0) (hl : lv_has ls nL (ai_l ad 0 L))
    (kk : ∀ ls' : Array Slot, lv_has ls' nL (ai_l ad 0 L') → W p l e R s m args below meth c H locs cells slots Q (F0 m pc' ls' (st'.map (ai_v ad)))) : W p l e R s m args below meth c H locs cells slots Q (F0 m pc ls (st.map (ai_v ad))) := by
  have hd1 : ai_len i ≠ 0 → decode cc pc = .ok (i, ai_len i) := fun hne => by
    rcases hlen with h | h
    · rw [← h]; exact hd
    · exact absurd h hne
  cases i with
  | iconst v =>
    cases hs
    exact lv_iconst hx hb (hd1 (Nat.succ_ne_zero _)) rfl (kk ls hl)
  | bipush v =>
    cases hs
    exact lv_bipush hx hb (hd1 (Nat.succ_ne_zero _)) rfl (kk ls hl)
  | sipush v =>
    cases hs
    exact lv_sipush hx hb (hd1 (Nat.succ_ne_zero _)) rfl (kk ls hl)
  | lconst v =>
    cases hs
    exact lv_lconst hx hb (hd1 (Nat.succ_ne_zero _)) rfl (kk ls hl)
  | iload_n k =>
    obtain ⟨x, hg, rfl, rfl, rfl⟩ := ai_ld_I hs
    exact lv_iload_n hx hb (hd1 (Nat.succ_ne_zero _)) rfl (ai_lh hl hg) (kk ls hl)
  | iload k =>
    obtain ⟨x, hg, rfl, rfl, rfl⟩ := ai_ld_I hs
    exact lv_iload hx hb (hd1 (Nat.succ_ne_zero _)) (ai_lh hl hg) (kk ls hl)
  | lload_n k =>
    obtain ⟨x, hg, rfl, rfl, rfl⟩ := ai_ld_L hs
    exact lv_lload_n hx hb (hd1 (Nat.succ_ne_zero _)) rfl (ai_lh hl hg) (kk ls hl)
  | lload k =>
    obtain ⟨x, hg, rfl, rfl, rfl⟩ := ai_ld_L hs
    exact lv_lload hx hb (hd1 (Nat.succ_ne_zero _)) (ai_lh hl hg) (kk ls hl)
  | aload_n k =>
    rcases ai_ld_R hs with ⟨x, hg, rfl, rfl, rfl⟩ | ⟨hg, rfl, rfl, rfl⟩
    · exact lv_aload_n hx hb (hd1 (Nat.succ_ne_zero _)) rfl (ai_lh hl hg) (kk ls hl)
    · exact lv_aload_nN hx hb (hd1 (Nat.succ_ne_zero _)) rfl (ai_lh hl hg) (kk ls hl)
  | aload k =>
    rcases ai_ld_R hs with ⟨x, hg, rfl, rfl, rfl⟩ | ⟨hg, rfl, rfl, rfl⟩
    · exact lv_aload hx hb (hd1 (Nat.succ_ne_zero _)) (ai_lh hl hg) (kk ls hl)
    · exact lv_aloadN hx hb (hd1 (Nat.succ_ne_zero _)) (ai_lh hl hg) (kk ls hl)
  | istore_n k =>
    simp only [ai_s] at hs
    split at hs
    · split at hs
      · next hk => cases hs; exact lv_istore_n hx hb (hd1 (Nat.succ_ne_zero _)) rfl hl hk rfl (fun ls' hl' => kk ls' (ai_store1 hl'))
      · cases hs
    · cases hs
  | istore k =>
    simp only [ai_s] at hs
    split at hs
    · split at hs
      · next hk => cases hs; exact lv_istore hx hb (hd1 (Nat.succ_ne_zero _)) hl hk rfl (fun ls' hl' => kk ls' (ai_store1 hl'))
      · cases hs
    · cases hs
  | lstore_n k =>
    simp only [ai_s] at hs
    split at hs
    · split at hs
      · next hk => cases hs; exact lv_lstore_n hx hb (hd1 (Nat.succ_ne_zero _)) rfl hl hk rfl (fun ls' hl' => kk ls' (ai_store2 hl'))
      · cases hs
    · cases hs
  | lstore k =>
    simp only [ai_s] at hs
    split at hs
    · split at hs
      · next hk => cases hs; exact lv_lstore hx hb (hd1 (Nat.succ_ne_zero _)) hl hk rfl (fun ls' hl' => kk ls' (ai_store2 hl'))
      · cases hs
    · cases hs
  | astore_n k =>
    simp only [ai_s] at hs
    split at hs
    · split at hs
      · next hk => cases hs; exact lv_astore_n hx hb (hd1 (Nat.succ_ne_zero _)) rfl hl hk rfl (fun ls' hl' => kk ls' (ai_store1 hl'))
      · cases hs
    · cases hs
  | astore k =>
    simp only [ai_s] at hs
    split at hs
    · split at hs
      · next hk => cases hs; exact lv_astore hx hb (hd1 (Nat.succ_ne_zero _)) hl hk rfl (fun ls' hl' => kk ls' (ai_store1 hl'))
      · cases hs
    · cases hs
  | iinc k n =>
    simp only [ai_s] at hs
    split at hs
    · next x hg =>
      split at hs
      · next hk =>
        cases hs
        have hm := ai_g_mem (ad := ad) L k 0 _ hg
        rw [Nat.zero_add] at hm
        obtain ⟨j, hj⟩ := List.getElem?_of_mem hm
        exact lv_iinc hx hb (hd1 (Nat.succ_ne_zero _)) hl hj rfl hk rfl (fun ls' hl' => kk ls' (ai_store1 hl'))
      · cases hs
    · cases hs
  | iadd =>
    simp only [ai_s] at hs
    split at hs
    · cases hs; exact lv_iadd hx hb (hd1 (Nat.succ_ne_zero _)) (kk ls hl)
    · cases hs
  | isub =>
    simp only [ai_s] at hs
    split at hs
    · cases hs; exact lv_isub hx hb (hd1 (Nat.succ_ne_zero _)) (kk ls hl)
    · cases hs
  | imul =>
    simp only [ai_s] at hs
    split at hs
    · cases hs; exact lv_imul hx hb (hd1 (Nat.succ_ne_zero _)) (kk ls hl)
    · cases hs
  | iand =>
    simp only [ai_s] at hs
    split at hs
    · cases hs; exact lv_iand hx hb (hd1 (Nat.succ_ne_zero _)) (kk ls hl)
    · cases hs
  | ior =>
    simp only [ai_s] at hs
    split at hs
    · cases hs; exact lv_ior hx hb (hd1 (Nat.succ_ne_zero _)) (kk ls hl)
    · cases hs
  | ixor =>
    simp only [ai_s] at hs
    split at hs
    · cases hs; exact lv_ixor hx hb (hd1 (Nat.succ_ne_zero _)) (kk ls hl)
    · cases hs
  | ishl =>
    simp only [ai_s] at hs
    split at hs
    · cases hs; exact lv_ishl hx hb (hd1 (Nat.succ_ne_zero _)) (kk ls hl)
    · cases hs
  | ishr =>
    simp only [ai_s] at hs
    split at hs
    · cases hs; exact lv_ishr hx hb (hd1 (Nat.succ_ne_zero _)) (kk ls hl)
    · cases hs
  | idiv =>
    simp only [ai_s] at hs
    split at hs
    · split at hs
      · cases hs
      · next hk => cases hs; exact lv_idiv hx hb (hd1 (Nat.succ_ne_zero _)) hk (kk ls hl)
    · cases hs
  | irem =>
    simp only [ai_s] at hs
    split at hs
    · split at hs
      · cases hs
      · next hk => cases hs; exact lv_irem hx hb (hd1 (Nat.succ_ne_zero _)) hk (kk ls hl)
    · cases hs
  | i2l =>
    simp only [ai_s] at hs
    split at hs
    · cases hs; exact lv_i2l hx hb (hd1 (Nat.succ_ne_zero _)) rfl (kk ls hl)
    · cases hs
  | l2i =>
    simp only [ai_s] at hs
    split at hs
    · cases hs; exact lv_l2i hx hb (hd1 (Nat.succ_ne_zero _)) rfl (kk ls hl)
    · cases hs
  | lcmp =>
    simp only [ai_s] at hs
    split at hs
    · cases hs; exact W.lcmp hx hb (hd1 (Nat.succ_ne_zero _)) (kk ls hl)
    · cases hs
  | dup =>
    simp only [ai_s] at hs
    split at hs
    · split at hs
      · next hk => cases hs; exact lv_dup hx hb (hd1 (Nat.succ_ne_zero _)) (by rw [ai_cat_v]; exact hk) (kk ls hl)
      · cases hs
    · cases hs
  | pop =>
    simp only [ai_s] at hs
    split at hs
    · split at hs
      · next hk => cases hs; exact lv_pop hx hb (hd1 (Nat.succ_ne_zero _)) (by rw [ai_cat_v]; exact hk) (kk ls hl)
      · cases hs
    · cases hs
  | pop2 =>
    simp only [ai_s] at hs
    split at hs
    · split at hs
      · next hk => cases hs; exact lv_pop2_2 hx hb (hd1 (Nat.succ_ne_zero _)) (by rw [ai_cat_v]; exact hk) (kk ls hl)
      · cases hs
    · cases hs
  | dup_x1 =>
    simp only [ai_s] at hs
    split at hs
    · split at hs
      · next hk => cases hs; exact lv_dup_x1 hx hb (hd1 (Nat.succ_ne_zero _)) (by rw [ai_cat_v]; exact hk.1) (by rw [ai_cat_v]; exact hk.2) (kk ls hl)
      · cases hs
    · cases hs
  | dup2 =>
    simp only [ai_s] at hs
    split at hs
    · split at hs
      · next hk => cases hs; exact lv_dup2_11 hx hb (hd1 (Nat.succ_ne_zero _)) (by rw [ai_cat_v]; exact hk.1) (by rw [ai_cat_v]; exact hk.2) (kk ls hl)
      · cases hs
    · cases hs
  | ifCond cd off =>
    simp only [ai_s] at hs
    split at hs
    · obtain ⟨t, ht, rfl, rfl, ⟨hc, rfl⟩ | ⟨hc, rfl⟩⟩ := ai_j_ok hs
      · cases cd with
        | eq => exact lv_if_eq hx hb (hd1 (Nat.succ_ne_zero _)) ht (fun _ => kk ls hl) (fun hn => by first | exact absurd (of_decide_eq_true hc) hn | exact absurd hn (of_decide_eq_true hc))
        | ne => exact lv_if_ne hx hb (hd1 (Nat.succ_ne_zero _)) ht (fun _ => kk ls hl) (fun hn => by first | exact absurd (of_decide_eq_true hc) hn | exact absurd hn (of_decide_eq_true hc))
        | lt => exact lv_if_lt hx hb (hd1 (Nat.succ_ne_zero _)) ht (fun _ => kk ls hl) (fun hn => by first | exact absurd (of_decide_eq_true hc) hn | exact absurd hn (of_decide_eq_true hc))
        | ge => exact lv_if_ge hx hb (hd1 (Nat.succ_ne_zero _)) ht (fun _ => kk ls hl) (fun hn => by first | exact absurd (of_decide_eq_true hc) hn | exact absurd hn (of_decide_eq_true hc))
        | gt => exact lv_if_gt hx hb (hd1 (Nat.succ_ne_zero _)) ht (fun _ => kk ls hl) (fun hn => by first | exact absurd (of_decide_eq_true hc) hn | exact absurd hn (of_decide_eq_true hc))
        | le => exact lv_if_le hx hb (hd1 (Nat.succ_ne_zero _)) ht (fun _ => kk ls hl) (fun hn => by first | exact absurd (of_decide_eq_true hc) hn | exact absurd hn (of_decide_eq_true hc))
      · cases cd with
        | eq => exact lv_if_eq hx hb (hd1 (Nat.succ_ne_zero _)) ht (fun hn => absurd hn (of_decide_eq_false hc)) (fun _ => kk ls hl)
        | ne => exact lv_if_ne hx hb (hd1 (Nat.succ_ne_zero _)) ht (fun hn => absurd hn (of_decide_eq_false hc)) (fun _ => kk ls hl)
        | lt => exact lv_if_lt hx hb (hd1 (Nat.succ_ne_zero _)) ht (fun hn => absurd hn (of_decide_eq_false hc)) (fun _ => kk ls hl)
        | ge => exact lv_if_ge hx hb (hd1 (Nat.succ_ne_zero _)) ht (fun hn => absurd hn (of_decide_eq_false hc)) (fun _ => kk ls hl)
        | gt => exact lv_if_gt hx hb (hd1 (Nat.succ_ne_zero _)) ht (fun hn => absurd hn (of_decide_eq_false hc)) (fun _ => kk ls hl)
        | le => exact lv_if_le hx hb (hd1 (Nat.succ_ne_zero _)) ht (fun hn => absurd hn (of_decide_eq_false hc)) (fun _ => kk ls hl)
    · cases hs
  | if_icmp cd off =>
    simp only [ai_s] at hs
    split at hs
    · obtain ⟨t, ht, rfl, rfl, ⟨hc, rfl⟩ | ⟨hc, rfl⟩⟩ := ai_j_ok hs
      · cases cd with
        | eq => exact lv_icmp_eq hx hb (hd1 (Nat.succ_ne_zero _)) ht (fun _ => kk ls hl) (fun hn => by first | exact absurd (of_decide_eq_true hc) hn | exact absurd hn (of_decide_eq_true hc))
        | ne => exact lv_icmp_ne hx hb (hd1 (Nat.succ_ne_zero _)) ht (fun _ => kk ls hl) (fun hn => by first | exact absurd (of_decide_eq_true hc) hn | exact absurd hn (of_decide_eq_true hc))
        | lt => exact lv_icmp_lt hx hb (hd1 (Nat.succ_ne_zero _)) ht (fun _ => kk ls hl) (fun hn => by first | exact absurd (of_decide_eq_true hc) hn | exact absurd hn (of_decide_eq_true hc))
        | ge => exact lv_icmp_ge hx hb (hd1 (Nat.succ_ne_zero _)) ht (fun _ => kk ls hl) (fun hn => by first | exact absurd (of_decide_eq_true hc) hn | exact absurd hn (of_decide_eq_true hc))
        | gt => exact lv_icmp_gt hx hb (hd1 (Nat.succ_ne_zero _)) ht (fun _ => kk ls hl) (fun hn => by first | exact absurd (of_decide_eq_true hc) hn | exact absurd hn (of_decide_eq_true hc))
        | le => exact lv_icmp_le hx hb (hd1 (Nat.succ_ne_zero _)) ht (fun _ => kk ls hl) (fun hn => by first | exact absurd (of_decide_eq_true hc) hn | exact absurd hn (of_decide_eq_true hc))
      · cases cd with
        | eq => exact lv_icmp_eq hx hb (hd1 (Nat.succ_ne_zero _)) ht (fun hn => absurd hn (of_decide_eq_false hc)) (fun _ => kk ls hl)
        | ne => exact lv_icmp_ne hx hb (hd1 (Nat.succ_ne_zero _)) ht (fun hn => absurd hn (of_decide_eq_false hc)) (fun _ => kk ls hl)
        | lt => exact lv_icmp_lt hx hb (hd1 (Nat.succ_ne_zero _)) ht (fun hn => absurd hn (of_decide_eq_false hc)) (fun _ => kk ls hl)
        | ge => exact lv_icmp_ge hx hb (hd1 (Nat.succ_ne_zero _)) ht (fun hn => absurd hn (of_decide_eq_false hc)) (fun _ => kk ls hl)
        | gt => exact lv_icmp_gt hx hb (hd1 (Nat.succ_ne_zero _)) ht (fun hn => absurd hn (of_decide_eq_false hc)) (fun _ => kk ls hl)
        | le => exact lv_icmp_le hx hb (hd1 (Nat.succ_ne_zero _)) ht (fun hn => absurd hn (of_decide_eq_false hc)) (fun _ => kk ls hl)
    · cases hs
  | goto off =>
    obtain ⟨ht, rfl, rfl⟩ := ai_to_ok hs
    exact lv_goto hx hb (hd1 (Nat.succ_ne_zero _)) ht (kk ls hl)
  | tableswitch dflt lo hi offs =>
    simp only [ai_s] at hs
    split at hs
    · split at hs
      · next hk => obtain ⟨ht, rfl, rfl⟩ := ai_to_ok hs; exact lv_tableOut hx hb hd hk ht (kk ls hl)
      · next hk =>
        split at hs
        · next off ho => obtain ⟨ht, rfl, rfl⟩ := ai_to_ok hs; exact lv_tableIn hx hb hd (fun z => hk (Or.inl z)) (fun z => hk (Or.inr z)) ho ht (kk ls hl)
        · cases hs
    · cases hs
  | lookupswitch dflt ps =>
    simp only [ai_s] at hs
    split at hs
    · split at hs
      · next hk => obtain ⟨ht, rfl, rfl⟩ := ai_to_ok hs; exact lv_lookup hx hb hd hk rfl ht (kk ls hl)
      · cases hs
    · cases hs
  | _ => cases hs
end AIS
end
section
def ai_tb : List Cond := lw_tbl.filter goodWord
def ai_isN (w : Cond) : Bool := match w with
  | .methodLinkNest _ _ _ _ => true
  | .fieldLinkNest _ _ _ _ _ _ => true
  | _ => false
def ai_nw : List Cond := lw_tbl.filter ai_isN
theorem ai_tbI {w : Cond} (h : w ∈ lw_tbl) (g : goodWord w = true) : w ∈ ai_tb := List.mem_filter.mpr ⟨h, g⟩
theorem ai_nwI {w : Cond} (h : w ∈ lw_tbl) (g : ai_isN w = true) : w ∈ ai_nw := List.mem_filter.mpr ⟨h, g⟩
/-- what holds of a method under way -/
def ai_C (p : Program) (s : State) (m : MethodId) (args : Array Value) (meth : Method) (c : Code) (r : ai_R) : Prop :=
  p.tables.exec = Jvm.exec ∧ c.code = r.2.2.1 ∧ meth.sig.returnType = r.2.2.2.2.1 ∧ c.maxLocals = r.2.2.2.1 ∧ s.vm.findClass (ai_cn r.1) = some m.cls ∧ (∀ w ∈ ai_tb, w.before args s = true) ∧ (∀ w ∈ ai_nw, va_Nw w s) ∧ meth.locks = false ∧ (r.2.1.name = "<init>" → meth.name = "<init>")
def ai_ty (ac : Nat → ClassId) : List (ClassId × FieldType) := [(ac 0, .int), (ac 1, .boolean), (ac 2, .long), (ac 3, .object RX0)]
def ai_Wc (D : va_G) (ac : Nat → ClassId) (X : ai_X) (ad : Nat → Nat) (A : Nat → Prop) (s : State) : Prop :=
  va_K D vwCl (ai_ty ac) s ∧ va_Z "DeadCode" "SHAPES" "[I" (.ref (ad (ai_B + 1))) A s s.heap ∧ (∀ (j n : Nat) (f : Nat → Int32), X[j]? = some (n, f) → va_T .int (ad (ai_B + j)) n (fun i => .int (f i)) A s s.heap) ∧ va_AO RX0 s
theorem ai_Wc.ex {D : va_G} {ac : Nat → ClassId} {X : ai_X} {ad ad' : Nat → Nat} {A : Nat → Prop} {s : State} {n : Nat} (h : ai_Wc D ac X ad A s) (hx : ai_ex ad ad' n) : ai_Wc D ac X ad' A s := by
  obtain ⟨h1, h2, h3, h4⟩ := h
  refine ⟨h1, ?_, fun j n f hj => ?_, h4⟩
  · rw [hx _ (Or.inr (Nat.le_add_right _ _))]; exact h2
  · rw [hx _ (Or.inr (Nat.le_add_right _ _))]; exact h3 j n f hj
theorem ai_inI {i : Int32} {n : Nat} (h : ai_in i n = true) : vp_in i n := by
  unfold ai_in at h
  unfold vp_in
  simpa using h
theorem ai_fitI {ty : FieldType} {v : Value} (ad : Nat → Nat) (h : ai_fit ty v = true) : narrow ty (ai_v ad v) = ai_v ad v ∧ fits ty (ai_v ad v) = true := by
  unfold ai_fit at h
  split at h
  · exact ⟨rfl, rfl⟩
  · next x =>
    have hx : x = 0 ∨ x = 1 := by simpa using h
    rcases hx with rfl | rfl <;> exact ⟨rfl, rfl⟩
  · exact ⟨rfl, rfl⟩
  · exact ⟨rfl, rfl⟩
  · exact ⟨rfl, rfl⟩
  · cases h
set_option maxRecDepth 100000 in
theorem ai_wU0 : vwCl.all (fun z => (u_ws z.1 z.2.1 z.2.2).all (fun w => decide (w ∈ lw_tbl) && goodWord w)) = true := by decide +kernel
theorem ai_wU {a : Nat} {C : String} {T : u_T} {N : Nat} (h : vwCl[a]? = some (C, T, N)) : ∀ w ∈ u_ws C T N, w ∈ ai_tb := by
  intro w hw
  have h1 := List.all_eq_true.mp ai_wU0 _ (List.mem_of_getElem? h)
  have h2 := List.all_eq_true.mp h1 w hw
  simp only [Bool.and_eq_true, decide_eq_true_eq] at h2
  exact ai_tbI h2.1 h2.2
/-- what is known of a class's fields -/
def ai_Cl (a : Nat) (C : String) (T : u_T) (N : Nat) : Prop := ∃ ty0 : Nat → FieldType, (∀ k, k < N → parseFieldDescriptor (T k).2.2.1 = some (ty0 k)) ∧ (∀ x, x < N → ∀ y, y < N → x ≠ y → (T x).2.1 ≠ (T y).2.1) ∧ (∀ k, k < N → ai_ft a k = some (ty0 k)) ∧ (∀ k, k < N → (T k).1 = C) ∧ ∀ fs, ai_dfs[a]? = some fs → fs.length = N ∧ ∀ j, j < N → defaultValue (ty0 j) = vp_V fs j
set_option maxRecDepth 100000 in
theorem ai_cl : ∀ (a : Nat) (C : String) (T : u_T) (N : Nat), vwCl[a]? = some (C, T, N) → ai_Cl a C T N
  | 0, _, _, _, h => by cases h; exact ⟨tyX0, tyX0_ok, nmX0, by decide +kernel, by decide +kernel, fun fs hf => by cases hf; exact ⟨rfl, by decide +kernel⟩⟩
  | 1, _, _, _, h => by cases h; exact ⟨tyX1, tyX1_ok, nmX1, by decide +kernel, by decide +kernel, fun fs hf => by cases hf; exact ⟨rfl, by decide +kernel⟩⟩
  | 2, _, _, _, h => by cases h; exact ⟨tyX2, tyX2_ok, nmX2, by decide +kernel, by decide +kernel, fun fs hf => by cases hf; exact ⟨rfl, by decide +kernel⟩⟩
  | 3, _, _, _, h => by cases h; exact ⟨tyX3, tyX3_ok, nmX3, by decide +kernel, by decide +kernel, fun fs hf => by cases hf; exact ⟨rfl, by decide +kernel⟩⟩
  | 4, _, _, _, h => by cases h; exact ⟨tyX4, tyX4_ok, nmX4, by decide +kernel, by decide +kernel, fun fs hf => by cases hf; exact ⟨rfl, by decide +kernel⟩⟩
  | 5, _, _, _, h => by cases h; exact ⟨tyX5, tyX5_ok, nmX5, by decide +kernel, by decide +kernel, fun fs hf => by cases hf; exact ⟨rfl, by decide +kernel⟩⟩
  | 6, _, _, _, h => by cases h; exact ⟨tyX6, tyX6_ok, nmX6, by decide +kernel, by decide +kernel, fun fs hf => by cases hf; exact ⟨rfl, by decide +kernel⟩⟩
  | _ + 7, _, _, _, h => by cases h
theorem ai_fl {o x a b : Nat} (h : (o, x, a, b) ∈ ai_LF) : ∃ C T N, vwCl[a]? = some (C, T, N) ∧ b < N ∧ Cond.fieldLink (ai_cn o) x (T b).1 (T b).2.1 (T b).2.2.1 ∈ ai_tb := by
  have h1 := List.all_eq_true.mp ai_wF _ h
  unfold ai_okF at h1
  split at h1
  · next C T N hc =>
    simp only [Bool.and_eq_true, decide_eq_true_eq] at h1
    exact ⟨C, T, N, hc, h1.1, ai_tbI h1.2 rfl⟩
  · cases h1
theorem ai_fln {o x a b : Nat} (h : (o, x, a, b) ∈ ai_LFN) : ∃ C T N, vwCl[a]? = some (C, T, N) ∧ b < N ∧ Cond.fieldLinkNest (ai_cn o) x (T b).1 (T b).2.1 (T b).2.2.1 "DeadCode" ∈ ai_nw := by
  have h1 := List.all_eq_true.mp ai_wFN _ h
  unfold ai_okFN at h1
  split at h1
  · next C T N hc =>
    simp only [Bool.and_eq_true, decide_eq_true_eq] at h1
    exact ⟨C, T, N, hc, h1.1, ai_nwI h1.2 rfl⟩
  · cases h1
theorem ai_decI {c : ByteArray} {pc : Nat} {i : ClassFile.Instr} (h : ai_dec c pc i = true) : ∃ len, decode c pc = .ok (i, len) ∧ (len = ai_len i ∨ ai_len i = 0) := by
  unfold ai_dec at h
  split at h
  · next j n hd =>
    simp only [Bool.and_eq_true, decide_eq_true_eq, Bool.or_eq_true] at h
    obtain ⟨rfl, h2⟩ := h
    refine ⟨n, hd, ?_⟩
    rcases h2 with h2 | h2
    · exact Or.inl (Nat.eq_of_beq_eq_true h2)
    · exact Or.inr (Nat.eq_of_beq_eq_true h2)
  · cases h
theorem ai_decL {c : ByteArray} {pc : Nat} {i : ClassFile.Instr} (h : ai_dec c pc i = true) (hn : ai_len i ≠ 0) : decode c pc = .ok (i, ai_len i) := by
  obtain ⟨len, h1, h2 | h2⟩ := ai_decI h
  · rw [← h2]; exact h1
  · exact absurd h2 hn
theorem ai_ch1_at {r : ai_R} {j : Nat} : ∀ (l : List (Option ai_N)) (t : Nat), ai_ch1 r j t l = true → ∀ (k : Nat) (i : ClassFile.Instr) (a b : Nat) (bm : List Bool), l[k]? = some (some (i, a, b, bm)) → ai_dec r.2.2.1 (16 * j + (t + k)) i = true ∧ ai_lnk r.1 r.2.1 i a b = true
  | [], _, _, _, _, _, _, _, hk => by simp at hk
  | none :: l, t, h, 0, _, _, _, _, hk => by cases hk
  | none :: l, t, h, k + 1, i, a, b, bm, hk => by
    have := ai_ch1_at l (t + 1) h k i a b bm (by simpa using hk)
    rw [show t + (k + 1) = t + 1 + k by omega]
    exact this
  | some (i0, a0, b0, m0) :: l, t, h, k, i, a, b, bm, hk => by
    have h : (ai_dec r.2.2.1 (16 * j + t) i0 && ai_lnk r.1 r.2.1 i0 a0 b0 && ai_ch1 r j (t + 1) l) = true := h
    simp only [Bool.and_eq_true] at h
    cases k with
    | zero => cases hk; exact h.1
    | succ k =>
      have := ai_ch1_at l (t + 1) h.2 k i a b bm (by simpa using hk)
      rw [show t + (k + 1) = t + 1 + k by omega]
      exact this
theorem ai_ch_at {r : ai_R} : ∀ (l : List (List (Option ai_N))) (j : Nat), ai_ch r j l = true → ∀ (k : Nat) (ch : List (Option ai_N)), l[k]? = some ch → ai_ch1 r (j + k) 0 ch = true
  | [], _, _, _, _, hk => by simp at hk
  | c0 :: l, j, h, k, ch, hk => by
    have h : (ai_ch1 r j 0 c0 && ai_ch r (j + 1) l) = true := h
    simp only [Bool.and_eq_true] at h
    cases k with
    | zero => cases hk; exact h.1
    | succ k =>
      have := ai_ch_at l (j + 1) h.2 k ch (by simpa using hk)
      rw [show j + (k + 1) = j + 1 + k by omega]
      exact this
/-- an entry of the code table is what the bytes say -/
theorem ai_atI {r : ai_R} (hr : r ∈ ai_ms) {pc : Nat} {i : ClassFile.Instr} {a b : Nat} {bm : List Bool} (h : ai_at r pc = some (i, a, b, bm)) : ai_dec r.2.2.1 pc i = true ∧ ai_lnk r.1 r.2.1 i a b = true := by
  unfold ai_at at h
  split at h
  · next ch hch =>
    split at h
    · next x hx =>
      subst h
      have h1 := ai_ch1_at ch 0 (ai_ch_at _ 0 (ai_kall r hr) _ ch hch) _ _ _ _ _ hx
      rw [show 16 * (0 + pc / 16) + (0 + pc % 16) = pc by omega] at h1
      exact h1
    · cases h
  · cases h
end
section
theorem ai_ret3I {x : Option Value} {dp dp' : Nat} {r st' : List Value} {M M' : List va_E} (h : ai_ret3 x dp r M = some (dp', st', M')) : ∃ v, x = some v ∧ dp' = dp ∧ st' = v :: r ∧ M' = M := by
  cases x with
  | none => cases h
  | some v => cases h; exact ⟨v, rfl, rfl, rfl, rfl⟩
theorem ai_ialI {X : ai_X} {M : List va_E} {k : Nat} {i : Int32} {v : Value} (h : ai_ial X M k i = some v) : (∃ n f, ai_B ≤ k ∧ X[k - ai_B]? = some (n, f) ∧ vp_in i n ∧ v = .int (f i.toNatClampNeg)) ∨ (∃ n f, M[k]? = some (.inl (0, n, .inl f)) ∧ vp_in i n ∧ v = .int (f i.toNatClampNeg)) := by
  unfold ai_ial at h
  split at h
  · next hb =>
    split at h
    · next n f hx =>
      split at h
      · next hi => cases h; exact Or.inl ⟨n, f, Nat.le_of_ble_eq_true hb, hx, ai_inI hi, rfl⟩
      · cases h
    · cases h
  · split at h
    · next n f hx =>
      split at h
      · next hi => cases h; exact Or.inr ⟨n, f, hx, ai_inI hi, rfl⟩
      · cases h
    · cases h
theorem ai_len2I {X : ai_X} {M : List va_E} {k : Nat} {v : Value} (h : ai_len2 X M k = some v) : (∃ n f, ai_B ≤ k ∧ X[k - ai_B]? = some (n, f) ∧ v = .int (Int32.ofNat n)) ∨ (∃ t n z, t < 4 ∧ M[k]? = some (.inl (t, n, z)) ∧ v = .int (Int32.ofNat n)) := by
  unfold ai_len2 at h
  split at h
  · next hb =>
    split at h
    · next n f hx => cases h; exact Or.inl ⟨n, f, Nat.le_of_ble_eq_true hb, hx, rfl⟩
    · cases h
  · split at h
    · next t n z hx =>
      split at h
      · next ht => cases h; exact Or.inr ⟨t, n, z, Nat.le_of_ble_eq_true ht, hx, rfl⟩
      · cases h
    · cases h
theorem ai_rf (ad : Nat → Nat) (o : Option Nat) : ai_v ad (va_rf o) = va_rf (o.map ad) := by cases o <;> rfl
theorem ai_inlt {i : Int32} {n : Nat} (h : vp_in i n) : i.toNatClampNeg < n := by
  unfold vp_in at h
  simp only [not_or, Nat.not_le] at h
  exact h.2
set_option maxRecDepth 100000 in
theorem ai_wGS : Cond.fieldLink RX5 171 "DeadCode" "SHAPES" "[I" ∈ lw_tbl := by decide +kernel
set_option maxRecDepth 100000 in
theorem ai_wCn : (List.range 7).all (fun a => match vwCl[a]? with | some (C, _, _) => decide (C = ai_cn a) | none => false) = true := by decide +kernel
section AIM
variable {p : Program} {l : Launch} {e : Env} {R : Room} {s : State} {m : MethodId} {args : Array Value} {below : List Frame} {meth : Method} {c : Code} {H : Heap} {locs : List Loc} {cells slots : Nat} {Q : State → Prop}
set_option maxHeartbeats 4000000 in
theorem ai_m_ok {r : ai_R} (C : ai_C p s m args meth c r) {X : ai_X} {i : ClassFile.Instr} {a b pc dp : Nat} {st st' : List Value} {M M' : List va_E} {D : va_G} {ac : Nat → ClassId} {ad : Nat → Nat} {A : Nat → Prop} {ls : Array Slot} (hch : ai_dec r.2.2.1 pc i = true ∧ ai_lnk r.1 r.2.1 i a b = true) (Wc : ai_Wc D ac X ad A s) (hP : va_P D vwCl (ai_w ad ac M) H) (hD : va_D A (ai_w ad ac M)) (hS : va_S A s.heap H locs) (hm : ai_m X i a b st M = some (dp, st', M'))
    (kk : ∀ (H' : Heap) (locs' : List Loc), va_P D vwCl (ai_w ad ac M') H' → va_D A (ai_w ad ac M') → va_S A s.heap H' locs' → W p l e R s m args below meth c H' locs' cells slots Q (F0 m (pc + dp) ls (st'.map (ai_v ad)))) : W p l e R s m args below meth c H locs cells slots Q (F0 m pc ls (st.map (ai_v ad))) := by
  obtain ⟨hx, hb, hr, hml, hown, hts, hnw, hlocks, hin⟩ := C
  obtain ⟨hK, hZ, hT, hAO⟩ := Wc
  obtain ⟨hd, hlk⟩ := hch
  cases i with
  | getfield x =>
    have hd := ai_decL hd (Nat.succ_ne_zero _)
    simp only [ai_m] at hm
    split at hm
    · next k r' =>
      split at hm
      · next ci fs hk =>
        split at hm
        · next hci =>
          obtain rfl := Nat.eq_of_beq_eq_true hci
          obtain ⟨v, hv, rfl, rfl, rfl⟩ := ai_ret3I hm
          have he := ai_w_at (ad := ad) (ac := ac) hk
          have hv' : (fs.map (ai_v ad))[b]? = some (ai_v ad v) := by rw [List.getElem?_map, hv]; rfl
          have hlk : (decide ((r.1, x, ci, b) ∈ ai_LF) || decide ((r.1, x, ci, b) ∈ ai_LFN)) = true := hlk
          rcases Bool.or_eq_true_iff.mp hlk with h1 | h1
          · obtain ⟨Cn, T, N, hc, hbN, hw⟩ := ai_fl (of_decide_eq_true h1)
            exact va_get hx hb hts (ai_wU hc) hown hK hP k he hc b hbN (hts _ hw) (fun _ h => h) hv' hd (kk H locs hP hD hS)
          · obtain ⟨Cn, T, N, hc, hbN, hw⟩ := ai_fln (of_decide_eq_true h1)
            exact va_getN hx hb hts (ai_wU hc) hown hK hP k he hc b hbN (va_Nw.use rfl (hnw _ hw)) (fun _ h => h) hv' hd (kk H locs hP hD hS)
        · cases hm
      · cases hm
    · cases hm
  | putfield x =>
    have hd := ai_decL hd (Nat.succ_ne_zero _)
    simp only [ai_m] at hm
    split at hm
    · next v k r' =>
      split at hm
      · next ci fs hk =>
        split at hm
        · next hcond =>
          cases hm
          simp only [Bool.and_eq_true] at hcond
          obtain ⟨⟨hci, hbl⟩, hfit⟩ := hcond
          obtain rfl := Nat.eq_of_beq_eq_true hci
          have hbl : b < fs.length := Nat.le_of_ble_eq_true hbl
          have he := ai_w_at (ad := ad) (ac := ac) hk
          have hlk : (decide ((r.1, x, ci, b) ∈ ai_LF) && (!(ai_fin ci b) || (decide (r.2.1.name = "<init>") && Nat.beq r.1 ci))) = true := hlk
          simp only [Bool.and_eq_true, decide_eq_true_eq] at hlk
          obtain ⟨h1, h2⟩ := hlk
          obtain ⟨Cn, T, N, hc, hbN, hw⟩ := ai_fl h1
          obtain ⟨ty0, hty, hnm, hft, hown2, -⟩ := ai_cl _ _ _ _ hc
          rw [hft b hbN] at hfit
          obtain ⟨hn, hf⟩ := ai_fitI ad hfit
          have hset : (ai_w ad ac M).set k (ad k, .inr (ci, (fs.map (ai_v ad)).set b (ai_v ad v))) = ai_w ad ac (M.set k (.inr (ci, fs.set b v))) := by
            rw [← ai_w_set]
            show _ = (ai_w ad ac M).set k (ad k, .inr (ci, (fs.set b v).map (ai_v ad)))
            rw [List.map_set]
          by_cases hfin : (T b).2.2.2 = true
          · have hf2 : ai_fin ci b = true := by unfold ai_fin; rw [hc]; exact hfin
            rw [hf2] at h2
            have h2 : decide (r.2.1.name = "<init>") = true ∧ Nat.beq r.1 ci = true := by simpa using h2
            have ho := Nat.eq_of_beq_eq_true h2.2
            refine va_putF hx hb hts (ai_wU hc) ty0 hty hnm hown hK hP hD hS k he hc b hbN (hts _ hw) (fun _ h => h) hfin (hin (of_decide_eq_true h2.1)) ?_ (hty b hbN) hn hf (by rw [List.length_map]; exact hbl) hd (fun H1 locs1 a1 a2 a3 => ?_)
            · rw [hown2 b hbN, ho]
              have := List.all_eq_true.mp ai_wCn _ (List.mem_range.mpr (List.getElem?_eq_some_iff.mp hc).1)
              rw [hc] at this
              exact of_decide_eq_true this
            · rw [hset] at a1 a2
              exact kk H1 locs1 a1 a2 a3
          · refine va_put hx hb hts (ai_wU hc) ty0 hty hnm hown hK hP hD hS k he hc b hbN (hts _ hw) (fun _ h => h) (Bool.not_eq_true _ ▸ hfin) (hty b hbN) hn hf (by rw [List.length_map]; exact hbl) hd (fun H1 locs1 a1 a2 a3 => ?_)
            rw [hset] at a1 a2
            exact kk H1 locs1 a1 a2 a3
        · cases hm
      · cases hm
    · cases hm
  | getstatic x =>
    have hd := ai_decL hd (Nat.succ_ne_zero _)
    cases hm
    have hlk : (Nat.beq r.1 5 && Nat.beq x 171 && Nat.beq a 1) = true := hlk
    simp only [Bool.and_eq_true] at hlk
    obtain ⟨⟨h1, h2⟩, h3⟩ := hlk
    have h1 := Nat.eq_of_beq_eq_true h1
    obtain rfl := Nat.eq_of_beq_eq_true h2
    obtain rfl := Nat.eq_of_beq_eq_true h3
    rw [h1] at hown
    exact va_gets hx hb hZ hS hown (hts _ (ai_tbI ai_wGS rfl)) (fun _ h => h) hd (kk H locs hP hD hS)
  | ldc2_w x =>
    have hd := ai_decL hd (Nat.succ_ne_zero _)
    cases hm
    have hlk : decide ((r.1, x, a) ∈ ai_LK) = true := hlk
    have h1 := List.all_eq_true.mp ai_wK _ (of_decide_eq_true hlk)
    exact lv_ldc2 hx hb hown (hts _ (ai_tbI (of_decide_eq_true h1) rfl)) hd (kk H locs hP hD hS)
  | iaload =>
    have hd := ai_decL hd (Nat.succ_ne_zero _)
    simp only [ai_m] at hm
    split at hm
    · next i k r' =>
      obtain ⟨v, hv, rfl, rfl, rfl⟩ := ai_ret3I hm
      rcases ai_ialI hv with ⟨n, f, hB, hX, hi, rfl⟩ | ⟨n, f, hk, hi, rfl⟩
      · have := hT _ _ _ hX
        rw [show ai_B + (k - ai_B) = k by omega] at this
        exact va_ti hx hb this hS hi rfl hd (kk H locs hP hD hS)
      · exact va_iald hx hb hK hP k 0 (ai_w_at hk) rfl hi hd (kk H locs hP hD hS)
    · cases hm
  | arraylength =>
    have hd := ai_decL hd (Nat.succ_ne_zero _)
    simp only [ai_m] at hm
    split at hm
    · next k r' =>
      obtain ⟨v, hv, rfl, rfl, rfl⟩ := ai_ret3I hm
      rcases ai_len2I hv with ⟨n, f, hB, hX, rfl⟩ | ⟨t, n, z, ht, hk, rfl⟩
      · have := hT _ _ _ hX
        rw [show ai_B + (k - ai_B) = k by omega] at this
        exact va_tlen hx hb this hS rfl hd (kk H locs hP hD hS)
      · have hz : ∃ y, ai_e ad ac (.inl (t, n, z)) = .inl (ac t, n, y) := by rcases z with f | f | f | f | f <;> exact ⟨_, rfl⟩
        obtain ⟨y, hy⟩ := hz
        have he := ai_w_at (ad := ad) (ac := ac) hk
        rw [hy] at he
        have hty : ∃ ty, (ai_ty ac)[t]? = some (ac t, ty) := by
          rcases t with _ | _ | _ | _ | t
          · exact ⟨_, rfl⟩
          · exact ⟨_, rfl⟩
          · exact ⟨_, rfl⟩
          · exact ⟨_, rfl⟩
          · exact absurd ht (Nat.not_lt.mpr (Nat.le_add_left 4 t))
        obtain ⟨ty, hty⟩ := hty
        exact va_alen hx hb hK hP k t he hty rfl hd (kk H locs hP hD hS)
    · cases hm
  | baload =>
    have hd := ai_decL hd (Nat.succ_ne_zero _)
    simp only [ai_m] at hm
    split at hm
    · next i k r' =>
      split at hm
      · next n f hk =>
        split at hm
        · next hi => cases hm; exact va_zald hx hb hK hP k 1 (ai_w_at hk) rfl (ai_inI hi) hd (kk H locs hP hD hS)
        · cases hm
      · cases hm
    · cases hm
  | laload =>
    have hd := ai_decL hd (Nat.succ_ne_zero _)
    simp only [ai_m] at hm
    split at hm
    · next i k r' =>
      split at hm
      · next n f hk =>
        split at hm
        · next hi => cases hm; exact va_lald hx hb hK hP k 2 (ai_w_at hk) rfl (ai_inI hi) hd (kk H locs hP hD hS)
        · cases hm
      · cases hm
    · cases hm
  | aaload =>
    have hd := ai_decL hd (Nat.succ_ne_zero _)
    simp only [ai_m] at hm
    split at hm
    · next i k r' =>
      split at hm
      · next n f hk =>
        split at hm
        · next hi =>
          cases hm
          have h1 := ai_inlt (ai_inI hi)
          refine va_aldq hx hb hK hP k 3 (ai_w_at hk) rfl (ai_inI hi) hd ?_
          rw [if_pos h1, ← ai_rf]
          exact kk H locs hP hD hS
        · cases hm
      · cases hm
    · cases hm
  | iastore =>
    have hd := ai_decL hd (Nat.succ_ne_zero _)
    simp only [ai_m] at hm
    split at hm
    · next x i k r' =>
      split at hm
      · next n f hk =>
        split at hm
        · next hi =>
          cases hm
          refine va_iast hx hb hK hP hD hS k 0 (ai_w_at hk) rfl (ai_inI hi) hd (fun H1 locs1 a1 a2 a3 => ?_)
          have hset := ai_w_set (ad := ad) (ac := ac) (M := M) (k := k) (e := .inl (0, n, .inl (upd f i.toNatClampNeg x)))
          exact kk H1 locs1 (hset ▸ a1) (hset ▸ a2) a3
        · cases hm
      · cases hm
    · cases hm
  | bastore =>
    have hd := ai_decL hd (Nat.succ_ne_zero _)
    simp only [ai_m] at hm
    split at hm
    · next x i k r' =>
      split at hm
      · next n f hk =>
        split at hm
        · next hi =>
          cases hm
          refine va_zast hx hb hK hP hD hS k 1 (ai_w_at hk) rfl (ai_inI hi) hd (fun H1 locs1 a1 a2 a3 => ?_)
          have hset := ai_w_set (ad := ad) (ac := ac) (M := M) (k := k) (e := .inl (1, n, .inl (upd f i.toNatClampNeg (vp_nar .boolean x))))
          exact kk H1 locs1 (hset ▸ a1) (hset ▸ a2) a3
        · cases hm
      · cases hm
    · cases hm
  | lastore =>
    have hd := ai_decL hd (Nat.succ_ne_zero _)
    simp only [ai_m] at hm
    split at hm
    · next x i k r' =>
      split at hm
      · next n f hk =>
        split at hm
        · next hi =>
          cases hm
          refine va_last hx hb hK hP hD hS k 2 (ai_w_at hk) rfl (ai_inI hi) hd (fun H1 locs1 a1 a2 a3 => ?_)
          have hset := ai_w_set (ad := ad) (ac := ac) (M := M) (k := k) (e := .inl (2, n, .inr (.inl (vp_updL f i.toNatClampNeg x))))
          exact kk H1 locs1 (hset ▸ a1) (hset ▸ a2) a3
        · cases hm
      · cases hm
    · cases hm
  | aastore =>
    have hd := ai_decL hd (Nat.succ_ne_zero _)
    simp only [ai_m] at hm
    split at hm
    · next v i k r' =>
      split at hm
      · next n f vs hk hv =>
        split at hm
        · next hi =>
          cases hm
          have h1 := ai_inlt (ai_inI hi)
          refine va_astq hx hb hK hP hD hS k 3 v 0 (r := (RX0, TX0, 2)) (ai_w_at hk) rfl (ai_w_at hv) rfl (ai_inI hi) hd (fun H1 locs1 a1 a2 a3 => ?_)
          have hset := ai_w_set (ad := ad) (ac := ac) (M := M) (k := k) (e := .inl (3, n, .inr (.inr (.inr (.inr (va_up f i.toNatClampNeg (some v)))))))
          have hfun : (va_up (fun j => if j < n then (f j).map ad else none) i.toNatClampNeg (some (ad v))) = (fun j => if j < n then (va_up f i.toNatClampNeg (some v) j).map ad else none) := by
            funext j
            unfold va_up
            by_cases hj : j = i.toNatClampNeg
            · subst hj; rw [if_pos rfl, if_pos h1, if_pos rfl]; rfl
            · rw [if_neg hj, if_neg hj]
          rw [hfun] at a1 a2
          exact kk H1 locs1 (hset ▸ a1) (hset ▸ a2) a3
        · cases hm
      · cases hm
    · cases hm
  | _ => cases hm
end AIM
end
section
set_option maxRecDepth 100000 in
theorem ai_wA : Cond.arrayClass .int ∈ lw_tbl ∧ Cond.arrayClass .boolean ∈ lw_tbl ∧ Cond.arrayClass .long ∈ lw_tbl ∧ Cond.arrayOver (.object RX0) ∈ lw_tbl := by decide +kernel
set_option maxRecDepth 100000 in
theorem ai_wY : Cond.native arraycopyName ∈ lw_tbl ∧ Cond.static arraycopyName ∈ lw_tbl ∧ Cond.initialized "java/lang/System" ∈ lw_tbl ∧ Cond.instanceMethod objectInit ∈ lw_tbl := by decide +kernel
set_option maxRecDepth 100000 in
theorem ai_wO : Cond.code objectInit ⟨#[0xb1]⟩ 1 none ∈ lw_tbl := by decide +kernel
theorem ai_ln {o x a : Nat} (h : (o, x, a) ∈ ai_LN) : ∃ C T N, vwCl[a]? = some (C, T, N) ∧ Cond.classLink (ai_cn o) x C ∈ ai_tb ∧ Cond.instantiable C N ∈ ai_tb ∧ Cond.initialized C ∈ ai_tb := by
  have h1 := List.all_eq_true.mp ai_wN _ h
  unfold ai_okN at h1
  split at h1
  · next C T N hc =>
    simp only [Bool.and_eq_true, decide_eq_true_eq] at h1
    exact ⟨C, T, N, hc, ai_tbI h1.1.1 rfl, ai_tbI h1.1.2 rfl, ai_tbI h1.2 rfl⟩
  · cases h1
theorem ai_nI {n : Int32} (h : (decide (n < 0) || Nat.blt 1000 n.toNatClampNeg) = false) : ¬ n < 0 ∧ n.toNatClampNeg ≤ 1000 := by
  rw [Bool.or_eq_false_iff] at h
  refine ⟨of_decide_eq_false h.1, ?_⟩
  have h2 := h.2
  rcases Nat.lt_or_ge 1000 n.toNatClampNeg with q | q
  · have : Nat.blt 1000 n.toNatClampNeg = true := Nat.ble_eq_true_of_le q
    rw [this] at h2; cases h2
  · exact q
def ai_nr (v : Value) : Bool := match v with
  | .ref _ => false
  | _ => true
theorem ai_dfn : ai_dfs.all (fun l => l.all ai_nr) = true := by decide +kernel
section AIN
variable {p : Program} {l : Launch} {e : Env} {R : Room} {s : State} {m : MethodId} {args : Array Value} {below : List Frame} {meth : Method} {c : Code} {H : Heap} {locs : List Loc} {cells slots : Nat} {Q : State → Prop}
set_option maxHeartbeats 4000000 in
theorem ai_a_ok {r : ai_R} (C : ai_C p s m args meth c r) {X : ai_X} {i : ClassFile.Instr} {a b pc dp ds : Nat} {st st' : List Value} {M : List va_E} {e0 : va_E} {D : va_G} {ac : Nat → ClassId} {ad : Nat → Nat} {A : Nat → Prop} {ls : Array Slot} (hch : ai_dec r.2.2.1 pc i = true ∧ ai_lnk r.1 r.2.1 i a b = true) (Wc : ai_Wc D ac X ad A s) (hA : ∀ q, s.heap.size ≤ q → A q) (hP : va_P D vwCl (ai_w ad ac M) H) (hD : va_D A (ai_w ad ac M)) (hS : va_S A s.heap H locs) (ha : ai_a i a st = some (dp, st', e0, ds)) (hB : M.length < ai_B) (hM : M.all (ai_ke M.length) = true) (hcells : cells + 1 ≤ R.cells) (hslots : slots + ds ≤ R.slots)
    (kk : ∀ (q : Nat) (H' : Heap), ai_ex ad (va_up ad M.length q) M.length → va_P D vwCl (ai_w (va_up ad M.length q) ac (M ++ [e0])) H' → va_D A (ai_w (va_up ad M.length q) ac (M ++ [e0])) → va_S A s.heap H' locs → W p l e R s m args below meth c H' locs (cells + 1) (slots + ds) Q (F0 m (pc + dp) ls (.ref q :: st'.map (ai_v ad)))) : W p l e R s m args below meth c H locs cells slots Q (F0 m pc ls (st.map (ai_v ad))) := by
  obtain ⟨hx, hb, hr, hml, hown, hts, hnw, hlocks, hin⟩ := C
  obtain ⟨hK, hZ, hT, hAO⟩ := Wc
  obtain ⟨hd, hlk⟩ := hch
  cases i with
  | newarray ty =>
    have hd := ai_decL hd (Nat.succ_ne_zero _)
    cases ty with
    | int =>
      simp only [ai_a] at ha
      split at ha
      · next n r' =>
        split at ha
        · cases ha
        · next hn =>
          cases ha
          obtain ⟨h1, h2⟩ := ai_nI hn
          refine va_newa (atype := .int) (ty := .int) (a0 := (n.toNatClampNeg, .inl (fun _ => 0))) hx hb (hts _ (ai_tbI ai_wA.1 rfl)) rfl hK hP hD hS hA (fun _ => rfl) h1 rfl (by show _ * 4 ≤ _; omega) hcells hslots hd (fun q cA H1 k1 k2 k3 k4 => ?_)
          have hcA : cA = ac 0 := Option.some.inj ((show s.vm.findClass ("[" ++ (FieldType.int).toString) = some cA from (k1.2 4 (cA, .int) rfl).2).symm.trans (hK.2 0 (ac 0, .int) rfl).2)
          subst hcA
          obtain ⟨w1, w2⟩ := ai_w_push (ad := ad) (ac := ac) (e := .inl (0, n.toNatClampNeg, .inl (fun _ => 0))) (q := q) hB hM rfl
          exact kk q H1 w1 (w2 ▸ k2) (w2 ▸ k3) k4
      · cases ha
    | boolean =>
      simp only [ai_a] at ha
      split at ha
      · next n r' =>
        split at ha
        · cases ha
        · next hn =>
          cases ha
          obtain ⟨h1, h2⟩ := ai_nI hn
          refine va_newa (atype := .boolean) (ty := .boolean) (a0 := (n.toNatClampNeg, .inl (fun _ => 0))) hx hb (hts _ (ai_tbI ai_wA.2.1 rfl)) rfl hK hP hD hS hA (fun _ => rfl) h1 rfl (by show _ * 1 ≤ _; omega) hcells hslots hd (fun q cA H1 k1 k2 k3 k4 => ?_)
          have hcA : cA = ac 1 := Option.some.inj ((show s.vm.findClass ("[" ++ (FieldType.boolean).toString) = some cA from (k1.2 4 (cA, .boolean) rfl).2).symm.trans (hK.2 1 (ac 1, .boolean) rfl).2)
          subst hcA
          obtain ⟨w1, w2⟩ := ai_w_push (ad := ad) (ac := ac) (e := .inl (1, n.toNatClampNeg, .inl (fun _ => 0))) (q := q) hB hM rfl
          exact kk q H1 w1 (w2 ▸ k2) (w2 ▸ k3) k4
      · cases ha
    | long =>
      simp only [ai_a] at ha
      split at ha
      · next n r' =>
        split at ha
        · cases ha
        · next hn =>
          cases ha
          obtain ⟨h1, h2⟩ := ai_nI hn
          refine va_newa (atype := .long) (ty := .long) (a0 := (n.toNatClampNeg, .inr (.inl (fun _ => 0)))) hx hb (hts _ (ai_tbI ai_wA.2.2.1 rfl)) rfl hK hP hD hS hA (fun _ => rfl) h1 rfl (by show _ * 8 ≤ _; omega) hcells hslots hd (fun q cA H1 k1 k2 k3 k4 => ?_)
          have hcA : cA = ac 2 := Option.some.inj ((show s.vm.findClass ("[" ++ (FieldType.long).toString) = some cA from (k1.2 4 (cA, .long) rfl).2).symm.trans (hK.2 2 (ac 2, .long) rfl).2)
          subst hcA
          obtain ⟨w1, w2⟩ := ai_w_push (ad := ad) (ac := ac) (e := .inl (2, n.toNatClampNeg, .inr (.inl (fun _ => 0)))) (q := q) hB hM rfl
          exact kk q H1 w1 (w2 ▸ k2) (w2 ▸ k3) k4
      · cases ha
    | _ => cases ha
  | anewarray x =>
    have hd := ai_decL hd (Nat.succ_ne_zero _)
    have hlk : (Nat.beq a 0 && decide ((r.1, x, a) ∈ ai_LN)) = true := hlk
    simp only [Bool.and_eq_true] at hlk
    obtain ⟨h0, hl0⟩ := hlk
    obtain rfl := Nat.eq_of_beq_eq_true h0
    obtain ⟨Cn, T, N, hc, hw1, hw2, hw3⟩ := ai_ln (of_decide_eq_true hl0)
    cases hc
    simp only [ai_a] at ha
    split at ha
    · next n r' =>
      split at ha
      · cases ha
      · next hn =>
        cases ha
        obtain ⟨h1, h2⟩ := ai_nI hn
        refine va_newq (C := RX0) hx hb hown (hts _ hw1) hAO hK hP hD hS hA h1 rfl (by omega) hcells hslots hd (fun q cA H1 k1 k2 k3 k4 => ?_)
        have hcA : cA = ac 3 := by
          obtain ⟨_, _, -, -, -, z1⟩ := (k1.2 4 (cA, .object RX0) rfl).2
          obtain ⟨_, _, -, -, -, z2⟩ := (hK.2 3 (ac 3, .object RX0) rfl).2
          exact Option.some.inj (z1.symm.trans z2)
        subst hcA
        obtain ⟨w1, w2⟩ := ai_w_push (ad := ad) (ac := ac) (e := .inl (3, n.toNatClampNeg, .inr (.inr (.inr (.inr (fun _ => none)))))) (e' := .inl (ac 3, n.toNatClampNeg, .inr (.inr (.inr (.inr (fun _ => none)))))) (q := q) hB hM (by
          show (Sum.inl _ : va_E) = Sum.inl _
          congr 7
          funext j
          by_cases hj : j < n.toNatClampNeg
          · rw [if_pos hj]; rfl
          · rw [if_neg hj])
        exact kk q H1 w1 (w2 ▸ k2) (w2 ▸ k3) k4
    · cases ha
  | new x =>
    have hd := ai_decL hd (Nat.succ_ne_zero _)
    have hlk : decide ((r.1, x, a) ∈ ai_LN) = true := hlk
    obtain ⟨Cn, T, N, hc, hw1, hw2, hw3⟩ := ai_ln (of_decide_eq_true hlk)
    obtain ⟨ty0, hty, -, -, -, hdf⟩ := ai_cl _ _ _ _ hc
    simp only [ai_a] at ha
    split at ha
    · next fs hfs =>
      cases ha
      obtain ⟨hN, hv⟩ := hdf _ hfs
      rw [hN] at hslots kk
      refine va_new (ci := a) (fs := fs) hx hb hts (ai_wU hc) ty0 hty hown (hts _ hw1) (hts _ hw2) (hts _ hw3) hK hP hD hS hA hc hv hcells hslots hd (fun q H1 k2 k3 k4 => ?_)
      have hmap : ∀ ad' : Nat → Nat, fs.map (ai_v ad') = fs := by
        intro ad'
        have hz := List.all_eq_true.mp ai_dfn _ (List.mem_of_getElem? hfs)
        conv => rhs; rw [← List.map_id fs]
        apply List.map_congr_left
        intro v hv2
        have := List.all_eq_true.mp hz v hv2
        cases v <;> first | rfl | cases this
      obtain ⟨w1, w2⟩ := ai_w_push (ad := ad) (ac := ac) (e := .inr (a, fs)) (e' := .inr (a, fs)) (q := q) hB hM (by
        show (Sum.inr _ : va_E) = Sum.inr _
        rw [hmap])
      exact kk q H1 w1 (w2 ▸ k2) (w2 ▸ k3) k4
    · cases ha
  | _ => cases ha
set_option maxHeartbeats 4000000 in
theorem ai_z_ok {r : ai_R} (C : ai_C p s m args meth c r) {X : ai_X} {i : ClassFile.Instr} {a b pc : Nat} {st st' : List Value} {M M' : List va_E} {D : va_G} {ac : Nat → ClassId} {ad : Nat → Nat} {A : Nat → Prop} {ls : Array Slot} (hch : ai_dec r.2.2.1 pc i = true ∧ ai_lnk r.1 r.2.1 i a b = true) (Wc : ai_Wc D ac X ad A s) (hP : va_P D vwCl (ai_w ad ac M) H) (hD : va_D A (ai_w ad ac M)) (hS : va_S A s.heap H locs) (hls : ls.size = r.2.2.2.1) (hz : ai_z i a st M = some (st', M')) (hf : 1 ≤ R.frames) (hw : 32 ≤ R.locals)
    (kk : ∀ (H' : Heap) (locs' : List Loc), va_P D vwCl (ai_w ad ac M') H' → va_D A (ai_w ad ac M') → va_S A s.heap H' locs' → W p l e R s m args below meth c H' locs' cells slots Q (F0 m (pc + 3) ls (st'.map (ai_v ad)))) : W p l e R s m args below meth c H locs cells slots Q (F0 m pc ls (st.map (ai_v ad))) := by
  obtain ⟨hx, hb, hr, hml, hown, hts, hnw, hlocks, hin⟩ := C
  obtain ⟨hK, hZ, hT, hAO⟩ := Wc
  obtain ⟨hd, hlk⟩ := hch
  cases i with
  | invokespecial x =>
    have hd := ai_decL hd (Nat.succ_ne_zero _)
    simp only [ai_z] at hz
    split at hz
    · next k r' h9 =>
      split at hz
      · next h8 =>
        cases hz
        have hlk : ((Nat.beq a 9 && decide (Cond.methodLink (ai_cn r.1) x objectInit ∈ lw_tbl)) || ((Nat.beq a 2 || Nat.beq a 5) && decide ((r.1, x, a, b) ∈ ai_LC))) = true := hlk
        obtain rfl := Nat.eq_of_beq_eq_true h9
        have hw1 : Cond.methodLink (ai_cn r.1) x objectInit ∈ lw_tbl := by
          rcases Bool.or_eq_true_iff.mp hlk with q | q
          · exact of_decide_eq_true (Bool.and_eq_true_iff.mp q).2
          · exact absurd (Bool.and_eq_true_iff.mp q).1 (by decide)
        have h8 := Nat.le_of_ble_eq_true h8
        refine W.objInit hx hb hown (hts _ (ai_tbI hw1 rfl)) (hts _ (ai_tbI ai_wY.2.2.2 rfl)) (hts _ (ai_tbI ai_wO rfl)) rfl (by rw [hml]; exact hls) rfl hd hf ?_ (kk H locs hP hD hS)
        show 2 * 0 + ((List.map (ai_v ad) st').map fun v => v.category).sum + 12 ≤ _
        rw [ai_cat_map]
        omega
      · cases hz
    · cases hz
  | invokestatic x =>
    have hd := ai_decL hd (Nat.succ_ne_zero _)
    simp only [ai_z] at hz
    split at hz
    · next n dp k1 sp k0 r' h9 =>
      split at hz
      · next hcond =>
        simp only [Bool.and_eq_true, Bool.not_eq_true', decide_eq_false_iff_not] at hcond
        obtain ⟨⟨⟨h8, c1⟩, c2⟩, c3⟩ := hcond
        have hlk : ((Nat.beq a 8 && decide (Cond.methodLink (ai_cn r.1) x arraycopyName ∈ lw_tbl)) || ((Nat.beq a 1 || Nat.beq a 4) && decide ((r.1, x, a, b) ∈ ai_LC))) = true := hlk
        obtain rfl := Nat.eq_of_beq_eq_true h9
        have hw1 : Cond.methodLink (ai_cn r.1) x arraycopyName ∈ lw_tbl := by
          rcases Bool.or_eq_true_iff.mp hlk with q | q
          · exact of_decide_eq_true (Bool.and_eq_true_iff.mp q).2
          · exact absurd (Bool.and_eq_true_iff.mp q).1 (by decide)
        have h8 := Nat.le_of_ble_eq_true h8
        have hloc : ((r'.map (ai_v ad)).map fun v => v.category).sum + (nativeFrameWords "java/lang/System" "arraycopy" 5 + 11) ≤ R.locals := by
          rw [ai_cat_map]
          have : nativeFrameWords "java/lang/System" "arraycopy" 5 = 7 := by decide
          omega
        split at hz
        · next n0 f n1 g e0 e1 =>
          split at hz
          · next hc2 =>
            cases hz
            simp only [Bool.and_eq_true] at hc2
            refine va_copyi hx hb (by rw [hml]; exact hls.symm) hown (hts _ (ai_tbI hw1 rfl)) (hts _ (ai_tbI ai_wY.1 rfl)) (hts _ (ai_tbI ai_wY.2.1 rfl)) (hts _ (ai_tbI ai_wY.2.2.1 rfl)) hK hP hD hS k0 k1 0 0 (ai_w_at e0) (ai_w_at e1) rfl rfl rfl c1 c2 c3 (Nat.le_of_ble_eq_true hc2.1) (Nat.le_of_ble_eq_true hc2.2) (fun _ _ => rfl) hf hloc hd (fun H1 locs1 a1 a2 a3 => ?_)
            have hset := ai_w_set (ad := ad) (ac := ac) (M := M) (k := k1) (e := .inl (0, n1, .inl (va_cpy f g sp.toNatClampNeg dp.toNatClampNeg n.toNatClampNeg)))
            exact kk H1 locs1 (hset ▸ a1) (hset ▸ a2) a3
          · cases hz
        · next n0 f n1 g e0 e1 =>
          split at hz
          · next hc2 =>
            cases hz
            simp only [Bool.and_eq_true] at hc2
            refine va_copyl hx hb (by rw [hml]; exact hls.symm) hown (hts _ (ai_tbI hw1 rfl)) (hts _ (ai_tbI ai_wY.1 rfl)) (hts _ (ai_tbI ai_wY.2.1 rfl)) (hts _ (ai_tbI ai_wY.2.2.1 rfl)) hK hP hD hS k0 k1 2 2 (ai_w_at e0) (ai_w_at e1) rfl rfl rfl c1 c2 c3 (Nat.le_of_ble_eq_true hc2.1) (Nat.le_of_ble_eq_true hc2.2) (fun _ _ => rfl) hf hloc hd (fun H1 locs1 a1 a2 a3 => ?_)
            have hset := ai_w_set (ad := ad) (ac := ac) (M := M) (k := k1) (e := .inl (2, n1, .inr (.inl (va_cpy f g sp.toNatClampNeg dp.toNatClampNeg n.toNatClampNeg))))
            exact kk H1 locs1 (hset ▸ a1) (hset ▸ a2) a3
          · cases hz
        · cases hz
      · cases hz
    · cases hz
  | _ => cases hz
end AIN
end
section
def ai_ws (r : ai_R) : List Cond := Cond.code r.2.1 r.2.2.1 r.2.2.2.1 r.2.2.2.2.1 :: ai_tb
def ai_P (D : va_G) (ac : Nat → ClassId) (X : ai_X) (ad : Nat → Nat) (M : List va_E) (sz : Nat) (As : List Value) : Array Value → State → Prop := fun v U => v = (As.map (ai_v ad)).toArray ∧ U.heap.size = sz ∧ va_P D vwCl (ai_w ad ac M) U.heap ∧ va_D (fun _ => True) (ai_w ad ac M) ∧ ai_Wc D ac X ad (va_A (ai_w ad ac M) sz) U ∧ ∀ w ∈ ai_nw, va_Nw w U
def ai_Q (D : va_G) (ac : Nat → ClassId) (ad : Nat → Nat) (M : List va_E) (sz : Nat) (v : Option Value) (M1 : List va_E) : Array Value → State → Outcome → State → Prop := fun _ st oc t => (∃ ad' : Nat → Nat, ai_ex ad ad' M.length ∧ oc = .returned (v.map (ai_v ad')) ∧ va_P D vwCl (ai_w ad' ac M1) t.heap ∧ va_D (va_A (ai_w ad ac M) sz) (ai_w ad' ac M1)) ∧ va_F (va_A (ai_w ad ac M) sz) st t
theorem ai_good (r : ai_R) (hr : Cond.code r.2.1 r.2.2.1 r.2.2.2.1 r.2.2.2.2.1 ∈ lw_tbl) (r0 : ai_R) : GoodIn (ai_ws r0) (ai_ws r) := by
  intro w hw
  rcases List.mem_cons.mp hw with rfl | h
  · exact ⟨List.mem_cons_of_mem _ (ai_tbI hr rfl), good_of_word rfl⟩
  · exact ⟨List.mem_cons_of_mem _ h, good_of_word (List.mem_filter.mp h).2⟩
theorem ai_goodT (r : ai_R) (hr : Cond.code r.2.1 r.2.2.1 r.2.2.2.1 r.2.2.2.2.1 ∈ lw_tbl) : GoodIn ai_tb (ai_ws r) := by
  intro w hw
  rcases List.mem_cons.mp hw with rfl | h
  · exact ⟨ai_tbI hr rfl, good_of_word rfl⟩
  · exact ⟨h, good_of_word (List.mem_filter.mp h).2⟩
theorem ai_nwM {s U : State} (hW : s.WarmedH U.vm) (h : ∀ w ∈ ai_nw, va_Nw w s) : ∀ w ∈ ai_nw, va_Nw w U := by
  intro w hw
  have hs := h w hw
  have hN := (List.mem_filter.mp hw).2
  unfold ai_isN at hN
  split at hN
  · exact va_Nw.warmM hW hs
  · exact va_Nw.warmF hW hs
  · cases hN
theorem ai_nwS {s U : State} (hvm : s.vm = U.vm) (h : ∀ w ∈ ai_nw, va_Nw w s) : ∀ w ∈ ai_nw, va_Nw w U := by
  intro w hw
  have hs := h w hw
  have hN := (List.mem_filter.mp hw).2
  unfold ai_isN at hN
  split at hN
  · exact va_Nw.same rfl hvm hs
  · exact va_Nw.same rfl hvm hs
  · cases hN
theorem ai_blind {D : va_G} {ac : Nat → ClassId} {X : ai_X} {ad : Nat → Nat} {M : List va_E} {sz : Nat} {As : List Value} : FrameBlind (ai_P D ac X ad M sz As) := by
  intro a U g mm h
  obtain ⟨h1, h2, h3, h4, ⟨k1, k2, k3, k4⟩, h6⟩ := h
  refine ⟨h1, h2, h3, h4, ⟨va_K.moved (u := U) (U := U.calling g mm a) (Vm.Alike.refl U.vm) k1, va_Z.moved (u := U) (U := U.calling g mm a) (Vm.Alike.refl U.vm) k2, fun j n f hj => va_T.moved (u := U) (U := U.calling g mm a) (Vm.Alike.refl U.vm) (k3 j n f hj), ?_⟩, ai_nwS (s := U) (U := U.calling g mm a) rfl h6⟩
  exact va_AO.moved (u := U) (U := U.calling g mm a) (Vm.Alike.refl U.vm) k4
theorem ai_pre {D : va_G} {ac : Nat → ClassId} {X : ai_X} {ad : Nat → Nat} {A : Nat → Prop} {M : List va_E} {As : List Value} {s : State} {H : Heap} {locs : List Loc} (Wc : ai_Wc D ac X ad A s) (hnw : ∀ w ∈ ai_nw, va_Nw w s) (hP : va_P D vwCl (ai_w ad ac M) H) (hD : va_D A (ai_w ad ac M)) (hS : va_S A s.heap H locs) (hAf : ∀ q, va_A (ai_w ad ac M) H.size q → A q) : ∀ U : State, U.heap = H → s.WarmedH U.vm → ai_P D ac X ad M H.size As (As.map (ai_v ad)).toArray U := by
  intro U hU hW
  obtain ⟨k1, k2, k3, k4⟩ := Wc
  refine ⟨rfl, by rw [hU], by rw [hU]; exact hP, hD.weaken (fun _ _ _ _ => trivial), ⟨va_K.moved hW.alike k1, ?_, fun j n f hj => ?_, va_AO.moved hW.alike k4⟩, ai_nwM hW hnw⟩
  · rw [hU]
    exact va_Z.moved hW.alike ((k2.kept hS.2.1).narrow hAf)
  · rw [hU]
    exact va_T.moved hW.alike (((k3 j n f hj).kept hS.2.1).narrow hAf)
section AIC
variable {p : Program} {l : Launch} {e : Env} {R : Room} {s : State} {m : MethodId} {args : Array Value} {below : List Frame} {meth : Method} {c : Code} {H : Heap} {locs : List Loc} {cells slots : Nat} {Q : State → Prop}
theorem ai_callk {D : va_G} {ac : Nat → ClassId} {ad : Nat → Nat} {A : Nat → Prop} {M M1 : List va_E} {v : Option Value} {mc ms pc : Nat} {ls : Array Slot} {st0 rest : List Value} {a : Array Value} (hr : va_Run p l e R s m args below meth c H locs cells slots mc ms (F0 m pc ls st0) rest (ai_Q D ac ad M H.size v M1 a) (va_A (ai_w ad ac M) H.size)) (hS : va_S A s.heap H locs) (hAf : ∀ q, va_A (ai_w ad ac M) H.size q → A q)
    (kk : ∀ (ad' : Nat → Nat) (H1 : Heap) (locs1 : List Loc), ai_ex ad ad' M.length → va_P D vwCl (ai_w ad' ac M1) H1 → va_D A (ai_w ad' ac M1) → va_S A s.heap H1 locs1 → W p l e R s m args below meth c H1 locs1 (cells + mc) (slots + ms) Q (F0 m (pc + 3) ls ((v.map (ai_v ad')).toList ++ rest))) : W p l e R s m args below meth c H locs cells slots Q (F0 m pc ls st0) := by
  intro T hT X
  obtain ⟨w, st₀, t, T', L, h0, X', hL, e1, e2, ⟨⟨ad', hex, hv, hp, hdd⟩, hz, hk⟩, st⟩ := hr T hT X
  cases hv
  rw [h0] at hz hk
  obtain ⟨t2, a1, b1⟩ := kk ad' T'.heap (locs ++ L) hex (by rw [e1]; exact hp) (hdd.weaken (fun _ _ _ z => hAf _ z))
    ⟨Nat.le_trans hS.1 (by rw [e1]; exact hz), fun q h1 h2 => by rw [e1, hk q (Nat.lt_of_lt_of_le h1 hS.1) (fun z => h2 (hAf q z))]; exact hS.2.1 q h1 h2, fun q hq => by
      rcases List.mem_append.mp hq with h | h
      · exact hS.2.2 q h
      · exact hAf _ (hL q h)⟩ T' rfl X'
  exact ⟨t2, st t2 a1, b1⟩
end AIC
/-- every run of the interpreter with this fuel is one of the machine -/
def ai_Snd (l : Launch) (X : ai_X) (n : Nat) : Prop := ∀ (d w : Nat) (r : ai_R) (pc : Nat) (L : List (Option Value)) (st : List Value) (M : List va_E) (c0 s0 pc1 : Nat) (v : Option Value) (M1 : List va_E) (c1 s1 : Nat), ai_x X n d w r pc L st M c0 s0 = some (pc1, v, M1, c1, s1) → r ∈ ai_ms →
  ∀ (p : Program) (e : Env) (s : State) (m : MethodId) (args : Array Value) (below : List Frame) (meth : Method) (c : Code) (R : Room) (D : va_G) (ac : Nat → ClassId) (ad : Nat → Nat) (A : Nat → Prop) (H : Heap) (locs : List Loc) (ls : Array Slot) (Q : State → Prop),
  ai_C p s m args meth c r → d ≤ R.frames → w ≤ R.locals → c1 ≤ R.cells → s1 ≤ R.slots → ai_Wc D ac X ad A s → (∀ q, s.heap.size ≤ q → A q) → va_P D vwCl (ai_w ad ac M) H → va_D A (ai_w ad ac M) → va_S A s.heap H locs → lv_has ls r.2.2.2.1 (ai_l ad 0 L) →
  (∀ (ad' : Nat → Nat) (H' : Heap) (locs' : List Loc) (ls' : Array Slot), ai_ex ad ad' M.length → va_P D vwCl (ai_w ad' ac M1) H' → va_D A (ai_w ad' ac M1) → va_S A s.heap H' locs' → (∃ i a b bm, ai_at r pc1 = some (i, a, b, bm) ∧ ai_ans i r.2.2.2.2.1 v.toList = some v) → W p l e R s m args below meth c H' locs' c1 s1 Q (F0 m pc1 ls' (v.toList.map (ai_v ad')))) →
  W p l e R s m args below meth c H locs c0 s0 Q (F0 m pc ls (st.map (ai_v ad)))
theorem ai_msM {r : ai_R} (hr : r ∈ ai_ms) : plainName r.2.1.cls = true ∧ (r.2.1.cls ≠ "java/lang/invoke/MethodHandle" ∧ r.2.1.cls ≠ "java/lang/invoke/VarHandle") ∧ r.2.1.cls = ai_cn r.1 := by
  have h := List.all_eq_true.mp ai_wM r hr
  unfold ai_okM at h
  simp only [Bool.and_eq_true, decide_eq_true_eq] at h
  exact ⟨h.1.1.1, ⟨h.1.1.2, h.1.2⟩, h.2⟩
set_option maxHeartbeats 4000000 in
theorem ai_met {l : Launch} {X : ai_X} {n : Nat} (hn : ai_Snd l X n) {d w : Nat} {r : ai_R} {As : List Value} {M M1 : List va_E} {pc1 kc ks : Nat} {v : Option Value} (h : ai_x X n d w r 0 (ai_en r.2.2.2.1 As) [] M 0 0 = some (pc1, v, M1, kc, ks)) (hr : r ∈ ai_ms) (hc : ai_cat As ≤ r.2.2.2.1) (D : va_G) (ac : Nat → ClassId) (ad : Nat → Nat) (sz : Nat) : Met l r.2.1 (ai_ws r) ({ frames := d, cells := kc, slots := ks, locals := w } : Room) (ai_P D ac X ad M sz As) (ai_Q D ac ad M sz v M1) kc ks (va_A (ai_w ad ac M) sz) := by
  obtain ⟨hpl, hmh, hcn⟩ := ai_msM hr
  refine Met.ofW (cc := r.2.2.1) (maxL := r.2.2.2.1) (ret := r.2.2.2.2.1) hpl rfl ?_
  intro p e s m args below meth c s₁ B hml hv
  obtain ⟨rfl, hsz, hP, hD0, hWc, hnw⟩ := hv
  have hts := atoms_spec (ws := ai_ws r) B.pre
  have hown : s.vm.findClass r.2.1.cls = some m.cls := findClass_of_methodNamed B.named
  rw [hcn] at hown
  have hC : ai_C p s m (As.map (ai_v ad)).toArray meth c r := ⟨B.exec, B.bytes, B.returns, hml, hown, fun w hw => hts w (List.mem_cons_of_mem _ hw), hnw, B.notSynchronized, fun hi => (name_of_methodNamed B.named B.method).1.trans hi⟩
  subst hsz
  have hD := hD0.self (sz := s.heap.size)
  have hA : ∀ q : Nat, s.heap.size ≤ q → va_A (ai_w ad ac M) s.heap.size q := fun q hq => Or.inr hq
  have hl := ai_entry (ad := ad) (n := r.2.2.2.1) (vs := As) hc
  rw [lg_entry_eq]
  generalize (lg_sl (As.map (ai_v ad)) ++ List.replicate (r.2.2.2.1 - (lg_sl (As.map (ai_v ad))).length) Slot.unset).toArray = ls at hl ⊢
  refine hn d w r 0 _ [] M 0 0 pc1 v M1 kc ks h hr p e s m _ below meth c _ D ac ad _ s.heap [] ls _ hC (Nat.le_refl _) (Nat.le_refl _) (Nat.le_refl _) (Nat.le_refl _) hWc hA hP hD va_S.rf hl ?_
  intro ad' H' locs' ls' hex hP' hD' hS' hans
  obtain ⟨i, a, b, bm, hat, hans⟩ := hans
  obtain ⟨hx, hb, hrt, -, -, -, -, hlocks, -⟩ := hC
  obtain ⟨hd, -⟩ := ai_atI hr hat
  have hfin : ∀ t : State, t.heap = H' → ai_Q D ac ad M s.heap.size v M1 (As.map (ai_v ad)).toArray s (.returned (v.map (ai_v ad'))) t := fun t ht => ⟨⟨ad', hex, rfl, by rw [ht]; exact hP', hD'⟩, hS'.F ht⟩
  generalize r.2.2.2.2.1 = ty at hrt hans
  cases i with
  | return_ =>
    have hd := ai_decL hd (Nat.succ_ne_zero _)
    rcases v with _ | v
    · rcases ty with _ | ty
      · exact W.vret hx hb hrt (fun t ht _ => hfin t ht) hS'.2.2 hd hlocks
      · cases hans
    · rcases ty with _ | ty <;> cases hans
  | ireturn =>
    have hd := ai_decL hd (Nat.succ_ne_zero _)
    rcases v with _ | v
    · rcases ty with _ | ty
      · cases hans
      · cases ty <;> cases hans
    · rcases ty with _ | ty
      · cases hans
      · cases ty <;> cases v <;> first
          | exact W.iret hx hb hrt (fun t ht _ => hfin t ht) hS'.2.2 hd hlocks
          | (cases hans; done)
          | (next x =>
              have hb2 : x = 0 ∨ x = 1 := by
                simp only [ai_ans, Option.toList_some] at hans
                split at hans
                · next hq => simpa using hq
                · cases hans
              refine W.zret hx hb hrt ?_ (fun t ht _ => hfin t ht) hS'.2.2 hd hlocks
              rcases hb2 with rfl | rfl <;> rfl)
  | lreturn =>
    have hd := ai_decL hd (Nat.succ_ne_zero _)
    rcases v with _ | v
    · rcases ty with _ | ty
      · cases hans
      · cases ty <;> cases hans
    · rcases ty with _ | ty
      · cases hans
      · cases ty <;> cases v <;> first
          | exact W.lret hx hb hrt (fun t ht _ => hfin t ht) hS'.2.2 hd hlocks
          | (cases hans; done)
  | areturn =>
    have hd := ai_decL hd (Nat.succ_ne_zero _)
    rcases v with _ | v
    · rcases ty with _ | ty
      · cases hans
      · cases ty <;> cases hans
    · rcases ty with _ | ty
      · cases hans
      · cases ty <;> cases v <;> first
          | exact W.aret hx hb hrt (Or.inr ⟨_, rfl⟩) (Or.inr ⟨_, rfl⟩) (fun t ht _ => hfin t ht) hS'.2.2 hd hlocks
          | (cases hans; done)
  | _ => cases hans
end
section
theorem ai_isI2 {q : Nat} {w : Cond} (h : ai_is q w = true) : w ∈ lw_tbl := List.mem_of_getElem? (of_decide_eq_true h)
theorem ai_lcN : ai_LC.all (fun q => Nat.blt q.2.2.2 ai_law) = true := by decide +kernel
theorem ai_lc {q : Nat × Nat × Nat × Nat} (h : q ∈ ai_LC) : ∃ z, ai_okC (q, z) = true := by
  obtain ⟨i, hi⟩ := List.getElem?_of_mem h
  have hl := (List.getElem?_eq_some_iff.mp hi).1
  rw [ai_wCl] at hl
  refine ⟨ai_PC[i], List.all_eq_true.mp ai_wC _ (List.mem_of_getElem? (i := i) ?_)⟩
  rw [List.getElem?_zip_eq_some]
  exact ⟨hi, List.getElem?_eq_getElem hl⟩
theorem ai_lcode {q : Nat × Nat × Nat × Nat} (h : q ∈ ai_LC) {r : ai_R} (hr : ai_ms[q.2.2.2]? = some r) : Cond.code r.2.1 r.2.2.1 r.2.2.2.1 r.2.2.2.2.1 ∈ lw_tbl := by
  have h1 : q.2.2.2 < ai_law := Nat.le_of_ble_eq_true (List.all_eq_true.mp ai_lcN q h)
  refine ai_call r (List.mem_of_getElem? (i := q.2.2.2) ?_)
  rw [List.getElem?_take]
  exact (if_pos h1).trans hr
section AIR
variable {p : Program} {l : Launch} {e : Env} {R : Room} {s : State} {m : MethodId} {args : Array Value} {below : List Frame} {meth : Method} {c : Code} {H : Heap} {locs : List Loc} {cells slots : Nat} {Q : State → Prop}
theorem ai_stk {ad : Nat → Nat} {st : List Value} {n : Nat} : st.map (ai_v ad) = ((st.take n).reverse.map (ai_v ad)).reverse ++ (st.drop n).map (ai_v ad) := by
  rw [← List.map_reverse, List.reverse_reverse, ← List.map_append, List.take_append_drop]
set_option maxHeartbeats 4000000 in
theorem ai_run {r : ai_R} (C : ai_C p s m args meth c r) {X : ai_X} {i : ClassFile.Instr} {a b pc d w : Nat} {st rest As : List Value} {M M1 : List va_E} {r' : ai_R} {v : Option Value} {kc ks : Nat} {D : va_G} {ac : Nat → ClassId} {ad : Nat → Nat} {A : Nat → Prop} {ls : Array Slot} (hch : ai_dec r.2.2.1 pc i = true ∧ ai_lnk r.1 r.2.1 i a b = true) (Wc : ai_Wc D ac X ad A s) (hP : va_P D vwCl (ai_w ad ac M) H) (hD : va_D A (ai_w ad ac M)) (hS : va_S A s.heap H locs) (hAf : ∀ q, va_A (ai_w ad ac M) H.size q → A q) (hls : ls.size = r.2.2.2.1) (hq : ai_q i a b st M = some (r', As, rest))
    (hM : Met l r'.2.1 (ai_ws r') ({ frames := d - 1, cells := kc, slots := ks, locals := w - (19 + r'.2.2.2.1) } : Room) (ai_P D ac X ad M H.size As) (ai_Q D ac ad M H.size v M1) kc ks (va_A (ai_w ad ac M) H.size)) (hd0 : 0 < d) (hw0 : 19 + r'.2.2.2.1 ≤ w) (hdR : d ≤ R.frames) (hwR : w ≤ R.locals) (hrest : ai_cat rest ≤ 8) (hcells : cells + kc ≤ R.cells) (hslots : slots + ks ≤ R.slots) :
    va_Run p l e R s m args below meth c H locs cells slots kc ks (F0 m pc ls (st.map (ai_v ad))) (rest.map (ai_v ad)) (ai_Q D ac ad M H.size v M1 (As.map (ai_v ad)).toArray) (va_A (ai_w ad ac M) H.size) := by
  have hCC := C
  obtain ⟨hx, hb, hr, hml, hown, hts, hnw, hlocks, hin⟩ := C
  have hK := Wc.1
  obtain ⟨hd, hlk⟩ := hch
  have hroom : (d - 1) + 1 ≤ R.frames ∧ 8 + (r'.2.2.2.1 + 11) + (w - (19 + r'.2.2.2.1)) ≤ R.locals := ⟨by omega, by omega⟩
  have hrest' : 2 * (F0 m pc ls (st.map (ai_v ad))).monitorRoom + ((rest.map (ai_v ad)).map fun v => v.category).sum ≤ 8 := lv_room (by rw [ai_cat_map]; exact hrest)
  have hpre : ∀ U : State, U.heap = H → s.WarmedH U.vm → ai_P D ac X ad M H.size As (As.map (ai_v ad)).toArray U := ai_pre Wc hnw hP hD hS hAf
  cases i with
  | invokevirtual x =>
    have hd := ai_decL hd (Nat.succ_ne_zero _)
    have hlk : (Nat.beq a 0 && decide ((r.1, x, a, b) ∈ ai_LC)) = true := hlk
    simp only [Bool.and_eq_true] at hlk
    obtain ⟨h0, h1⟩ := hlk
    obtain rfl := Nat.eq_of_beq_eq_true h0
    have h1 := of_decide_eq_true h1
    simp only [ai_q] at hq
    split at hq
    · next r2 hr2 =>
      split at hq
      · next k As' hAs =>
        split at hq
        · next ci fs hk =>
          split at hq
          · next hcond =>
            cases hq
            simp only [Bool.and_eq_true] at hcond
            have hci := Nat.eq_of_beq_eq_true hcond.1
            have hlen := Nat.eq_of_beq_eq_true hcond.2
            obtain ⟨z, hz⟩ := ai_lc h1
            have hcode := ai_lcode h1 hr2
            have hst := ai_stk (ad := ad) (st := st) (n := r'.2.2.2.2.2.1)
            rw [hAs] at hst
            obtain ⟨o', y, cd, mL, ret, na, tb⟩ := r'
            simp only [ai_okC, hr2, Bool.and_eq_true, decide_eq_true_eq] at hz
            obtain ⟨z0, ⟨⟨⟨⟨z1, z2⟩, z3⟩, z4⟩, z5⟩, z6⟩ := hz
            have hmem : ∃ q : vw_C, vwCl[ci]? = some q ∧ q.1 = y.cls := by
              rw [hci]
              cases hq2 : vwCl[o']? with
              | none => rw [hq2] at z6; cases z6
              | some q => rw [hq2] at z6; exact ⟨q, rfl, Option.some.inj z6⟩
            obtain ⟨q, hq1, hq2⟩ := hmem
            have hrecv := va_recv hK hP hq1 (ai_w_at (ad := ad) (ac := ac) hk)
            rw [hq2] at hrecv
            have hmh := (ai_msM (List.mem_of_getElem? hr2)).2.1
            have hG : GoodIn ai_tb (wsV (ai_cn r.1) x y.cls y (ai_ws (o', y, cd, mL, ret, na, tb))) := by
              intro w' hw'
              unfold wsV at hw'
              rcases List.mem_append.mp hw' with hw' | hw'
              · simp only [List.mem_cons, List.not_mem_nil, or_false] at hw'
                rcases hw' with rfl | rfl | rfl | rfl
                · exact ⟨ai_tbI (ai_isI2 z1) rfl, good_of_word rfl⟩
                · exact ⟨ai_tbI (ai_isI2 z2) rfl, good_of_word rfl⟩
                · exact ⟨ai_tbI (ai_isI2 z3) rfl, good_of_word rfl⟩
                · exact ⟨ai_tbI (ai_isI2 z0) rfl, good_of_word rfl⟩
              · exact ai_goodT _ hcode w' hw'
            exact va_runV (As := As'.map (ai_v ad)) (rest := (st.drop na).map (ai_v ad)) (b := ad k) (n := na - 1) ⟨hx, hb, hml, hown, hts⟩ hM (cwV (na - 1) hts hG rfl rfl rfl ⟨rfl, hmh.1, hmh.2, z4⟩ hroom) ⟨ai_blind, hrecv, hpre⟩ rfl (by rw [List.length_map]; have hlen : As'.length + 1 = na := hlen; omega) hls (by
              show st.map (ai_v ad) = _
              rw [hst, List.map_cons, List.reverse_cons, List.append_assoc]; rfl) hrest' hd ⟨hcells, hslots⟩
          · cases hq
        · cases hq
      · cases hq
    · cases hq
  | invokespecial x =>
    have hd := ai_decL hd (Nat.succ_ne_zero _)
    have hlk : ((Nat.beq a 9 && decide (Cond.methodLink (ai_cn r.1) x objectInit ∈ lw_tbl)) || ((Nat.beq a 2 || Nat.beq a 5) && decide ((r.1, x, a, b) ∈ ai_LC))) = true := hlk
    simp only [ai_q] at hq
    split at hq
    · next r2 h9 hr2 =>
      rw [h9, Bool.false_and, Bool.false_or, Bool.and_eq_true] at hlk
      have h1 := of_decide_eq_true hlk.2
      split at hq
      · next k As' hAs =>
        split at hq
        · next hlen =>
          cases hq
          have hlen := Nat.eq_of_beq_eq_true hlen
          obtain ⟨z, hz⟩ := ai_lc h1
          have hcode := ai_lcode h1 hr2
          have hst := ai_stk (ad := ad) (st := st) (n := r'.2.2.2.2.2.1)
          rw [hAs] at hst
          obtain ⟨o', y, cd, mL, ret, na, tb⟩ := r'
          have hmh := (ai_msM (List.mem_of_getElem? hr2)).2.1
          rcases Bool.or_eq_true_iff.mp hlk.1 with h2 | h2
          · obtain rfl := Nat.eq_of_beq_eq_true h2
            simp only [ai_okC, hr2, Bool.and_eq_true, decide_eq_true_eq] at hz
            obtain ⟨z0, ⟨⟨⟨⟨z1, z2⟩, z3⟩, z4⟩, z5⟩, z6⟩ := hz
            subst z6
            exact va_runI (As := As'.map (ai_v ad)) (rest := (st.drop na).map (ai_v ad)) (b := ad k) (n := na - 1) ⟨hx, hb, hml, hown, hts⟩ hM (cwI (na - 1) hts (ai_goodT _ hcode) rfl rfl rfl (hts _ (ai_tbI (ai_isI2 z0) rfl)) (hts _ (ai_tbI (ai_isI2 z1) rfl)) (hts _ (ai_tbI (ai_isI2 z2) rfl)) z5 ⟨hmh.1, hmh.2, z3⟩ hroom) ⟨ai_blind, hpre⟩ rfl (by rw [List.length_map]; have hlen : As'.length + 1 = na := hlen; omega) hls (by
              show st.map (ai_v ad) = _
              rw [hst, List.map_cons, List.reverse_cons, List.append_assoc]; rfl) hrest' hd ⟨hcells, hslots⟩
          · obtain rfl := Nat.eq_of_beq_eq_true h2
            simp only [ai_okC, hr2, Bool.and_eq_true, decide_eq_true_eq] at hz
            obtain ⟨z0, ⟨⟨⟨⟨z1, z2⟩, z3⟩, z4⟩, z5⟩, z6⟩ := hz
            subst z6
            exact va_runIN (As := As'.map (ai_v ad)) (rest := (st.drop na).map (ai_v ad)) (b := ad k) (n := na - 1) ⟨hx, hb, hml, hown, hts⟩ hM ⟨va_cnB (na - 1) hts (ai_goodT _ hcode) rfl rfl rfl (hnw _ (ai_nwI (ai_isI2 z1) rfl)) (hts _ (ai_tbI (ai_isI2 z0) rfl)) ⟨hmh.1, hmh.2, z3⟩ hroom, z5, hts _ (ai_tbI (ai_isI2 z2) rfl)⟩ ⟨ai_blind, hpre⟩ rfl (by rw [List.length_map]; have hlen : As'.length + 1 = na := hlen; omega) hls (by
              show st.map (ai_v ad) = _
              rw [hst, List.map_cons, List.reverse_cons, List.append_assoc]; rfl) hrest' hd ⟨hcells, hslots⟩
        · cases hq
      · cases hq
    · cases hq
  | invokestatic x =>
    have hd := ai_decL hd (Nat.succ_ne_zero _)
    have hlk : ((Nat.beq a 8 && decide (Cond.methodLink (ai_cn r.1) x arraycopyName ∈ lw_tbl)) || ((Nat.beq a 1 || Nat.beq a 4) && decide ((r.1, x, a, b) ∈ ai_LC))) = true := hlk
    simp only [ai_q] at hq
    split at hq
    · next r2 h9 hr2 =>
      rw [h9, Bool.false_and, Bool.false_or, Bool.and_eq_true] at hlk
      have h1 := of_decide_eq_true hlk.2
      split at hq
      · next hlen =>
        cases hq
        have hlen := Nat.eq_of_beq_eq_true hlen
        obtain ⟨z, hz⟩ := ai_lc h1
        have hcode := ai_lcode h1 hr2
        have hst := ai_stk (ad := ad) (st := st) (n := r'.2.2.2.2.2.1)
        obtain ⟨o', y, cd, mL, ret, na, tb⟩ := r'
        have hmh := (ai_msM (List.mem_of_getElem? hr2)).2.1
        have hlen : (st.take na).length = na := hlen
        rcases Bool.or_eq_true_iff.mp hlk.1 with h2 | h2
        · obtain rfl := Nat.eq_of_beq_eq_true h2
          simp only [ai_okC, hr2, Bool.and_eq_true, decide_eq_true_eq] at hz
          obtain ⟨z0, ⟨z1, z2⟩, z3⟩ := hz
          have hG : GoodIn ai_tb (va_wsS (ai_cn r.1) x y (ai_ws (o', y, cd, mL, ret, na, tb))) := by
            intro w' hw'
            unfold va_wsS at hw'
            rcases List.mem_append.mp hw' with hw' | hw'
            · simp only [List.mem_cons, List.not_mem_nil, or_false] at hw'
              rcases hw' with rfl | rfl | rfl
              · exact ⟨ai_tbI (ai_isI2 z1) rfl, good_of_word rfl⟩
              · exact ⟨ai_tbI (ai_isI2 z2) rfl, good_of_word rfl⟩
              · exact ⟨ai_tbI (ai_isI2 z0) rfl, good_of_word rfl⟩
            · exact ai_goodT _ hcode w' hw'
          exact va_runS (As := (st.take na).reverse.map (ai_v ad)) (rest := (st.drop na).map (ai_v ad)) (n := na) ⟨hx, hb, hml, hown, hts⟩ hM (va_cwS na hts hG rfl rfl rfl ⟨hmh.1, hmh.2, z3⟩ hroom) ⟨ai_blind, hpre⟩ rfl (by rw [List.length_map, List.length_reverse]; exact hlen) hls hst hrest' hd ⟨hcells, hslots⟩
        · obtain rfl := Nat.eq_of_beq_eq_true h2
          simp only [ai_okC, hr2, Bool.and_eq_true, decide_eq_true_eq] at hz
          obtain ⟨z0, ⟨z1, z2⟩, z3⟩ := hz
          exact va_runSN (As := (st.take na).reverse.map (ai_v ad)) (rest := (st.drop na).map (ai_v ad)) (n := na) ⟨hx, hb, hml, hown, hts⟩ hM ⟨va_cnB na hts (ai_goodT _ hcode) rfl rfl rfl (hnw _ (ai_nwI (ai_isI2 z1) rfl)) (hts _ (ai_tbI (ai_isI2 z0) rfl)) ⟨hmh.1, hmh.2, z3⟩ hroom, hts _ (ai_tbI (ai_isI2 z2) rfl), trivial⟩ ⟨ai_blind, hpre⟩ rfl (by rw [List.length_map, List.length_reverse]; exact hlen) hls hst hrest' hd ⟨hcells, hslots⟩
      · cases hq
    · cases hq
  | _ => cases hq
end AIR
end
section
/-- one step of the interpreter, by its kinds -/
theorem ai_inv {X : ai_X} {n d w : Nat} {r : ai_R} {pc : Nat} {L0 : List (Option Value)} {st : List Value} {M : List va_E} {c s : Nat} {o : Nat × Option Value × List va_E × Nat × Nat} (h : ai_x X (n + 1) d w r pc L0 st M c s = some o) : ∃ i a b bm, ai_at r pc = some (i, a, b, bm) ∧
    ((∃ pc' L' st', ai_s i pc r.2.2.2.1 (ai_mk bm L0) st = some (pc', L', st') ∧ ai_x X n d w r pc' L' st' M c s = some o) ∨
     (∃ dp st' M', ai_m X i a b st M = some (dp, st', M') ∧ ai_x X n d w r (pc + dp) (ai_mk bm L0) st' M' c s = some o) ∨
     (∃ v, ai_ans i r.2.2.2.2.1 st = some v ∧ o = (pc, v, M, c, s)) ∨
     (∃ r' As rest, ai_q i a b st M = some (r', As, rest) ∧ 0 < d ∧ 19 + r'.2.2.2.1 ≤ w ∧ ai_cat rest ≤ 8 ∧ ai_cat As ≤ r'.2.2.2.1 ∧ (ai_mk bm L0).all (ai_kl M.length) = true ∧ rest.all (ai_k M.length) = true ∧ ∃ q v M' kc ks, ai_x X n (d - 1) (w - (19 + r'.2.2.2.1)) r' 0 (ai_en r'.2.2.2.1 As) [] M 0 0 = some (q, v, M', kc, ks) ∧ ai_x X n d w r (pc + 3) (ai_mk bm L0) (v.toList ++ rest) M' (c + kc) (s + ks) = some o) ∨
     (∃ st' M', ai_z i a st M = some (st', M') ∧ 0 < d ∧ 32 ≤ w ∧ ai_x X n d w r (pc + 3) (ai_mk bm L0) st' M' c s = some o) ∨
     (∃ dp st' e ds, ai_a i a st = some (dp, st', e, ds) ∧ M.length < ai_B ∧ M.all (ai_ke M.length) = true ∧ (ai_mk bm L0).all (ai_kl M.length) = true ∧ st'.all (ai_k M.length) = true ∧ ai_x X n d w r (pc + dp) (ai_mk bm L0) (.ref M.length :: st') (M ++ [e]) (c + 1) (s + ds) = some o)) := by
  unfold ai_x at h
  split at h
  · cases h
  · next i a b bm hat =>
    refine ⟨i, a, b, bm, hat, ?_⟩
    split at h
    · next pc' L' st' hs => exact Or.inl ⟨pc', L', st', hs, h⟩
    · split at h
      · next dp st' M' hm => exact Or.inr (Or.inl ⟨dp, st', M', hm, h⟩)
      · split at h
        · next v hv => exact Or.inr (Or.inr (Or.inl ⟨v, hv, (Option.some.inj h).symm⟩))
        · split at h
          · next r' As rest hq =>
            split at h
            · next hc =>
              simp only [Bool.and_eq_true] at hc
              obtain ⟨⟨⟨⟨⟨h1, h2⟩, h3⟩, h4⟩, h5⟩, h6⟩ := hc
              split at h
              · next q v M' kc ks hx => exact Or.inr (Or.inr (Or.inr (Or.inl ⟨r', As, rest, hq, Nat.le_of_ble_eq_true h1, Nat.le_of_ble_eq_true h2, Nat.le_of_ble_eq_true h3, Nat.le_of_ble_eq_true h4, h5, h6, q, v, M', kc, ks, hx, h⟩)))
              · cases h
            · cases h
          · split at h
            · next st' M' hz =>
              split at h
              · next hc =>
                simp only [Bool.and_eq_true] at hc
                exact Or.inr (Or.inr (Or.inr (Or.inr (Or.inl ⟨st', M', hz, Nat.le_of_ble_eq_true hc.1, Nat.le_of_ble_eq_true hc.2, h⟩))))
              · cases h
            · split at h
              · next dp st' e ds ha =>
                split at h
                · next hc =>
                  simp only [Bool.and_eq_true] at hc
                  obtain ⟨⟨⟨h1, h2⟩, h3⟩, h4⟩ := hc
                  exact Or.inr (Or.inr (Or.inr (Or.inr (Or.inr ⟨dp, st', e, ds, ha, Nat.le_of_ble_eq_true h1, h2, h3, h4, h⟩))))
                · cases h
              · cases h
theorem ai_m_len {X : ai_X} {i : ClassFile.Instr} {a b dp : Nat} {st st' : List Value} {M M' : List va_E} (h : ai_m X i a b st M = some (dp, st', M')) : M'.length = M.length := by
  unfold ai_m at h
  repeat' split at h
  all_goals first
    | (cases h; done)
    | (cases h; rfl)
    | (cases h; exact List.length_set)
    | (obtain ⟨v, -, -, -, rfl⟩ := ai_ret3I h; rfl)
theorem ai_z_len {i : ClassFile.Instr} {a : Nat} {st st' : List Value} {M M' : List va_E} (h : ai_z i a st M = some (st', M')) : M'.length = M.length := by
  unfold ai_z at h
  repeat' split at h
  all_goals first
    | (cases h; done)
    | (cases h; rfl)
    | (cases h; exact List.length_set)
theorem ai_mono (X : ai_X) : ∀ (n d w : Nat) (r : ai_R) (pc : Nat) (L : List (Option Value)) (st : List Value) (M : List va_E) (c0 s0 pc1 : Nat) (v : Option Value) (M1 : List va_E) (c1 s1 : Nat), ai_x X n d w r pc L st M c0 s0 = some (pc1, v, M1, c1, s1) → M.length ≤ M1.length ∧ c0 ≤ c1 ∧ s0 ≤ s1 := by
  intro n
  induction n with
  | zero => intro d w r pc L st M c0 s0 pc1 v M1 c1 s1 h; cases h
  | succ n ih =>
    intro d w r pc L st M c0 s0 pc1 v M1 c1 s1 h
    obtain ⟨i, a, b, bm, hat, hh⟩ := ai_inv h
    rcases hh with ⟨pc', L', st', -, h⟩ | ⟨dp, st', M', hm, h⟩ | ⟨v', -, h⟩ | ⟨r', As, rest, hq, -, -, -, -, -, -, q, v', M', kc, ks, h1, h2⟩ | ⟨st', M', hz, -, -, h⟩ | ⟨dp, st', e, ds, -, -, -, -, -, h⟩
    · exact ih _ _ _ _ _ _ _ _ _ _ _ _ _ _ h
    · have := ih _ _ _ _ _ _ _ _ _ _ _ _ _ _ h
      rw [ai_m_len hm] at this
      exact this
    · cases h
      exact ⟨Nat.le_refl _, Nat.le_refl _, Nat.le_refl _⟩
    · have a1 := ih _ _ _ _ _ _ _ _ _ _ _ _ _ _ h1
      have a2 := ih _ _ _ _ _ _ _ _ _ _ _ _ _ _ h2
      exact ⟨by omega, by omega, by omega⟩
    · have := ih _ _ _ _ _ _ _ _ _ _ _ _ _ _ h
      rw [ai_z_len hz] at this
      exact this
    · have := ih _ _ _ _ _ _ _ _ _ _ _ _ _ _ h
      rw [List.length_append] at this
      exact ⟨by have := this.1; simp at this; omega, by omega, by omega⟩
theorem ai_tol (v : Option Value) (ad : Nat → Nat) : (v.map (ai_v ad)).toList = v.toList.map (ai_v ad) := by cases v <;> rfl
theorem ai_ansI {i : ClassFile.Instr} {ty : Option FieldType} {st : List Value} {v : Option Value} (h : ai_ans i ty st = some v) : st = v.toList := by
  unfold ai_ans at h
  repeat' split at h
  all_goals first
    | (cases h; done)
    | (cases h; rfl)
set_option maxHeartbeats 4000000 in
theorem ai_snd (l : Launch) (X : ai_X) : ∀ n, ai_Snd l X n := by
  intro n
  induction n with
  | zero => intro d w r pc L st M c0 s0 pc1 v M1 c1 s1 h; cases h
  | succ n ih =>
    intro d w r pc L st M c0 s0 pc1 v M1 c1 s1 h hr p e s m args below meth c R D ac ad A H locs ls Q C hd hw hc hs Wc hA hP hD hS hl hend
    obtain ⟨i, a, b, bm, hat, hh⟩ := ai_inv h
    have hch := ai_atI hr hat
    have hl' := ai_lmk bm hl
    have hAf : ∀ q, va_A (ai_w ad ac M) H.size q → A q := fun q hq => by
      rcases hq with ⟨k, e', hk⟩ | hk
      · exact hD.2 k (q, e') hk
      · exact hA q (Nat.le_trans hS.1 hk)
    rcases hh with ⟨pc', L', st', hst, h⟩ | ⟨dp, st', M', hm, h⟩ | ⟨v', hv, h⟩ | ⟨r', As, rest, hq, hd0, hw0, hre, hca, hk1, hk2, q, v', M', kc, ks, h1, h2⟩ | ⟨st', M', hz, hd0, hw0, h⟩ | ⟨dp, st', e0, ds, ha, hB, hMk, hk1, hk2, h⟩
    · obtain ⟨len, hdec, hlen⟩ := ai_decI hch.1
      exact ai_s_ok C.1 C.2.1 hst hdec hlen hl' (fun ls' hl2 => ih _ _ _ _ _ _ _ _ _ _ _ _ _ _ h hr p e s m args below meth c R D ac ad A H locs ls' Q C hd hw hc hs Wc hA hP hD hS hl2 hend)
    · refine ai_m_ok C hch Wc hP hD hS hm (fun H' locs' a1 a2 a3 => ih _ _ _ _ _ _ _ _ _ _ _ _ _ _ h hr p e s m args below meth c R D ac ad A H' locs' ls Q C hd hw hc hs Wc hA a1 a2 a3 hl' ?_)
      rw [ai_m_len hm]
      exact hend
    · cases h
      have hst := ai_ansI hv
      subst hst
      exact hend ad H locs ls ai_ex.rf hP hD hS ⟨i, a, b, bm, hat, hv⟩
    · have m1 := ai_mono _ _ _ _ _ _ _ _ _ _ _ _ _ _ _ _ h1
      have m2 := ai_mono _ _ _ _ _ _ _ _ _ _ _ _ _ _ _ _ h2
      have hr' : r' ∈ ai_ms := by
        unfold ai_q at hq
        repeat' split at hq
        all_goals first
          | (cases hq; done)
          | (cases hq; exact List.mem_of_getElem? (by assumption))
      have hM := ai_met ih h1 hr' hca D ac ad H.size
      refine ai_callk (ai_run C hch Wc hP hD hS hAf hl'.1 hq hM hd0 hw0 hd hw hre (by omega) (by omega)) hS hAf (fun ad' H1 locs1 hex a1 a2 a3 => ?_)
      have e1 : (v'.map (ai_v ad')).toList ++ rest.map (ai_v ad) = (v'.toList ++ rest).map (ai_v ad') := by
        rw [List.map_append, ai_tol, ai_ex_st hex hk2]
      rw [e1]
      refine ih _ _ _ _ _ _ _ _ _ _ _ _ _ _ h2 hr p e s m args below meth c R D ac ad' A H1 locs1 ls Q C hd hw hc hs (Wc.ex hex) hA a1 a2 a3 (by rw [ai_ex_l hex _ 0 hk1]; exact hl') (fun ad2 H' locs' ls' hex2 => hend ad2 H' locs' ls' (hex.tr hex2 m1.1))
    · refine ai_z_ok C hch Wc hP hD hS hl'.1 hz (by omega) (by omega) (fun H' locs' a1 a2 a3 => ih _ _ _ _ _ _ _ _ _ _ _ _ _ _ h hr p e s m args below meth c R D ac ad A H' locs' ls Q C hd hw hc hs Wc hA a1 a2 a3 hl' ?_)
      rw [ai_z_len hz]
      exact hend
    · have m2 := ai_mono _ _ _ _ _ _ _ _ _ _ _ _ _ _ _ _ h
      refine ai_a_ok C hch Wc hA hP hD hS ha hB hMk (by omega) (by omega) (fun q H' hex a1 a2 a3 => ?_)
      have e1 : (Value.ref q :: st'.map (ai_v ad)) = (Value.ref M.length :: st').map (ai_v (va_up ad M.length q)) := by
        rw [List.map_cons, ai_ex_st hex hk2]
        show _ = Value.ref (va_up ad M.length q M.length) :: _
        unfold va_up
        rw [if_pos rfl]
      rw [e1]
      refine ih _ _ _ _ _ _ _ _ _ _ _ _ _ _ h hr p e s m args below meth c R D ac _ A H' locs ls Q C hd hw hc hs (Wc.ex hex) hA a1 a2 a3 (by rw [ai_ex_l hex _ 0 hk1]; exact hl') (fun ad2 H2 locs' ls' hex2 => hend ad2 H2 locs' ls' (hex.tr hex2 (by simp)))
end
section
/-! THE CLAIM OUT OF ONE WALK OF THE LAW'S BODY. Your part is whole_start (and what it stands on); all else here is the same for every law, but numbers. -/
def R_law : String := "DeadCodeLaw"
def lw_P (b : Addr) (xs : List Int32) (args : Array Value) (s : State) : Prop := args = #[.ref b] ∧ s.IntsAt b xs ∧ xs.length ≤ 3072 ∧ (Jvm.Cond.and given_1 narrow_1).before args s = true
def lw_Q (_ : Array Value) (s : State) (o : Outcome) (t : State) : Prop := o = .returned (some (.int 1)) ∧ Framed s o t [] 600000 7302250
def lw_Z (below : List Frame) (a : Array Value) (s : State) : State → Prop := fun t => ∃ o, t.status = .running ∧ Ended t below o ∧ lw_Q a s o t
/-- the law's own end, with 1 on the stack, nothing written that was there before, its room as the claim has it -/
theorem lw_ret {p : Program} {l : Launch} {e : Env} {s : State} {m : MethodId} {below : List Frame} {meth : Method} {c : Code} {b : Nat} (hx : p.tables.exec = Jvm.exec) (hb : c.code = code) (hr : meth.sig.returnType = ret) (hlocks : meth.locks = false) {pc : Nat} {H : Heap} {ls : Array Slot} (hdg : decode code pc = .ok (.ireturn, 1)) : W p l e room_1 s m #[Value.ref b] below meth c H [] 600000 7302250 (lw_Z below #[Value.ref b] s) (F0 m pc ls [.int 1]) := by
  intro T hT X
  obtain ⟨fs, hret, hrun, hended, hW, hframe⟩ := X.leave (v := some (.int 1)) (hlocks := hlocks) (fun h => by rw [hr] at h; cases h)
  have hmeth' : T.vm.method? m = some meth := X.method'
  refine ⟨T.setFrames fs, ?_, .returned (some (.int 1)), hrun, hended, rfl, ⟨_, rfl⟩, hW, hframe⟩
  jvm_step X.here [X.here.top, hx, hb, hdg, hmeth', hr, ret, narrow_b1]
  (try refine ⟨rfl, ?_⟩); (try refine ⟨rfl, ?_⟩)
  first | (intro acts; rw [hret _ acts rfl rfl rfl]) | rw [hret _ _ rfl rfl rfl]
  exact Steps.refl _
/-- what holds at the law's entry: the machine, the code, the tables' words (any of lw_tbl by 'hts w (by decide +kernel)'), the script of L ints xs at the cell b, what the Statement gives of the start (any of its parts by flat_of_before) -/
def lw_At (p : Program) (s : State) (m : MethodId) (meth : Method) (c : Code) (b L : Nat) (xs : Nat → Int32) : Prop :=
  p.tables.exec = Jvm.exec ∧ c.code = code ∧ meth.sig.returnType = ret ∧ c.maxLocals = 4 ∧ s.vm.findClass R_law = some m.cls ∧ (∀ w ∈ lw_tbl, w.before #[Value.ref b] s = true) ∧ va_X b L xs s s.heap ∧ b < s.heap.size ∧ meth.locks = false ∧ (Jvm.Cond.and given_1 narrow_1).before #[Value.ref b] s = true
end
section
def ai_shl : List Int32 := [2, 1, 0, 2, 2, 0, 2, 2, 2, 2, 2, 2, 2, 2, 2, 2, 2, 5, 5, 0, 0, 2, 3, 0, 2, 3, 0, 2, 4, 0, 2, 0, 0, 2, 0, 0, 2, 0, 0]
def ai_sh (j : Nat) : Int32 := ai_shl.getD j 0
/-- the tables that nobody writes: the script, SHAPES -/
def ai_XX (L : Nat) (xs : Nat → Int32) : ai_X := [(L, xs), (39, ai_sh)]
set_option maxRecDepth 100000 in
theorem ai_wI0 : vwCl.all (fun z => decide (Cond.instantiable z.1 z.2.2 ∈ lw_tbl)) = true := by decide +kernel
set_option maxRecDepth 100000 in
theorem ai_wLS : Cond.laysStatic "DeadCode" "SHAPES" "[I" ∈ lw_tbl ∧ Cond.initialized "DeadCode" ∈ lw_tbl := by decide +kernel
set_option maxRecDepth 100000 in
theorem ai_flat : Cond.arrayOf (.static "DeadCode" "SHAPES" "[I") .int ∈ flatC (Jvm.Cond.and given_1 narrow_1) ∧ Cond.eq (.length (.static "DeadCode" "SHAPES" "[I")) (.int 39) ∈ flatC (Jvm.Cond.and given_1 narrow_1) := by decide +kernel
set_option maxRecDepth 100000 in
theorem ai_flats : ∀ j, j < 39 → Cond.eq (.elem (.static "DeadCode" "SHAPES" "[I") (.int (Int32.ofNat j))) (.int (ai_sh j)) ∈ flatC (Jvm.Cond.and given_1 narrow_1) := by decide +kernel
theorem ai_lawr : ai_ms[ai_law]? = some ai_r143 := rfl
def ai_pureP (N : Nat) : Prop := ∀ (L : Nat) (xs : Nat → Int32), L ≤ N → ∃ n pc1 M1 c1 s1, ai_x (ai_XX L xs) n 9 350 ai_r143 0 (ai_en 4 [.ref ai_B]) [] [] 0 0 = some (pc1, some (.int 1), M1, c1, s1) ∧ c1 ≤ 600000 ∧ s1 ≤ 7302250
set_option maxHeartbeats 4000000 in
theorem ai_whole {N : Nat} (hN : ai_pureP N) {p : Program} {e : Env} {s : State} {m : MethodId} {below : List Frame} {meth : Method} {c : Code} (l : Launch) {b L : Nat} {xs : Nat → Int32} (hL : L ≤ N) (C0 : lw_At p s m meth c b L xs) : W p l e room_1 s m #[Value.ref b] below meth c s.heap [] 0 0 (lw_Z below #[Value.ref b] s) (entryFrame m ([Value.ref b] : List Value).toArray 4) := by
  obtain ⟨hx, hb, hr, hml, hown, hts, hX, hbl, hlocks, hgv⟩ := id C0
  have hA : ∀ q : Nat, s.heap.size ≤ q → (fun q : Nat => s.heap.size ≤ q) q := fun _ h => h
  have hbA : ¬ (fun q : Nat => s.heap.size ≤ q) b := Nat.not_le.mpr hbl
  have hAn : ∀ a : Nat, a < s.heap.size → ¬ (fun q : Nat => s.heap.size ≤ q) a := fun a h => Nat.not_le.mpr h
  have htb : ∀ w ∈ ai_tb, w.before #[Value.ref b] s = true := fun w hw => hts w (List.mem_filter.mp hw).1
  have hnw : ∀ w ∈ ai_nw, va_Nw w s := by
    intro w hw
    have h1 := hts w (List.mem_filter.mp hw).1
    have hN := (List.mem_filter.mp hw).2
    unfold ai_isN at hN
    split at hN
    · exact va_Nw.of rfl h1
    · exact va_Nw.of rfl h1
    · cases hN
  have hkn : ∀ k : Nat, ∃ z : ClassId × (Nat → Nat), ∀ q : vw_C, vwCl[k]? = some q → u_Kn s q.1 q.2.1 q.2.2 z.1 z.2 := by
    intro k
    cases hk : vwCl[k]? with
    | none => exact ⟨(0, fun _ => 0), fun q h => by cases h⟩
    | some q =>
      obtain ⟨C, T, N⟩ := q
      have hi := of_decide_eq_true (List.all_eq_true.mp ai_wI0 _ (List.mem_of_getElem? hk))
      obtain ⟨cC, iS, h⟩ := u_known (C := C) (T := T) (N := N) (n := N) htb (ai_wU hk) (hts _ hi)
      exact ⟨(cC, iS), fun q' h' => by cases h'; exact h⟩
  obtain ⟨zf, hzf⟩ := Classical.axiomOfChoice hkn
  obtain ⟨a0, k0, p0, f0, g0, d0⟩ := Cond.arrayClass_spec (hts _ ai_wA.1)
  obtain ⟨a1, k1, p1, f1, g1, d1⟩ := Cond.arrayClass_spec (hts _ ai_wA.2.1)
  obtain ⟨a2, k2, p2, f2, g2, d2⟩ := Cond.arrayClass_spec (hts _ ai_wA.2.2.1)
  obtain ⟨p3, a3, k3, f3, -, g3, d3, n3⟩ := Cond.arrayOver_spec (hts _ ai_wA.2.2.2)
  have hK : va_K ((fun k => (zf k).1, fun k => (zf k).2) : va_G) vwCl (ai_ty (fun t => match t with | 0 => a0 | 1 => a1 | 2 => a2 | _ => a3)) s := by
    refine ⟨fun k q hq => hzf k q hq, fun k q hq => ?_⟩
    match k, hq with
    | 0, hq => cases hq; exact ⟨fun n z => ⟨fun k h => (by cases h), k0, g0, p0, d0⟩, f0⟩
    | 1, hq => cases hq; exact ⟨fun n z => ⟨fun k h => (by cases h), k1, g1, p1, d1⟩, f1⟩
    | 2, hq => cases hq; exact ⟨fun n z => ⟨fun k h => (by cases h), k2, g2, p2, d2⟩, f2⟩
    | 3, hq => cases hq; exact ⟨fun n z => ⟨fun k h => (by cases h), k3, g3, p3, d3⟩, k3, p3, g3, d3, f3, n3⟩
    | k + 4, hq => cases hq
  have hfl := flat_of_before _ hgv
  obtain ⟨t, hte, hT1⟩ := va_Tof (A := fun q : Nat => s.heap.size ≤ q) (N := 39) (f := fun i => .int (ai_sh i)) (by decide) (hfl _ ai_flat.1) (va_eqt (hfl _ ai_flat.2)) (fun j hj => va_eqt (hfl _ (ai_flats j hj))) hAn
  have hZ := va_Zof (A := fun q : Nat => s.heap.size ≤ q) (hts _ ai_wLS.1) (hts _ ai_wLS.2) hte hAn
  have hT0 : va_T .int b L (fun i => .int (xs i)) (fun q : Nat => s.heap.size ≤ q) s s.heap := by
    obtain ⟨scr, h1, h2, h3, h4, h5⟩ := hX
    exact ⟨scr, h1, h2, h3, Nat.le_of_eq h4.symm, by rw [h4], h5, hbA⟩
  obtain ⟨n, pc1, M1, c1, s1, hpure, hc1, hs1⟩ := hN L xs hL
  have hl := ai_entry (ad := fun k => if k = ai_B then b else t) (n := 4) (vs := [.ref ai_B]) (by decide)
  rw [lg_entry_eq]
  have hv : ([Value.ref ai_B] : List Value).map (ai_v (fun k => if k = ai_B then b else t)) = [Value.ref b] := by
    show [Value.ref (if ai_B = ai_B then b else t)] = _
    rw [if_pos rfl]
  rw [hv] at hl
  generalize (lg_sl ([Value.ref b]) ++ List.replicate (4 - (lg_sl ([Value.ref b])).length) Slot.unset).toArray = ls at hl ⊢
  have hC : ai_C p s m #[Value.ref b] meth c ai_r143 := ⟨hx, hb, hr, hml, hown, htb, hnw, hlocks, fun h => absurd h (by decide)⟩
  refine ai_snd l (ai_XX L xs) n 9 350 ai_r143 0 _ [] [] 0 0 pc1 (some (.int 1)) M1 c1 s1 hpure (List.mem_of_getElem? ai_lawr) p e s m #[Value.ref b] below meth c room_1 _ _ (fun k => if k = ai_B then b else t) (fun q : Nat => s.heap.size ≤ q) s.heap [] ls _ hC (Nat.le_refl _) (Nat.le_refl _) hc1 hs1 ⟨hK, ?_, ?_, hts _ ai_wA.2.2.2⟩ hA ?_ ?_ va_S.rf hl ?_
  · show va_Z "DeadCode" "SHAPES" "[I" (.ref (if ai_B + 1 = ai_B then b else t)) _ s s.heap
    rw [if_neg (by omega)]; exact hZ
  · intro j n f hj
    match j, hj with
    | 0, hj =>
      cases hj
      show va_T .int (if ai_B + 0 = ai_B then b else t) L _ _ s s.heap
      rw [if_pos (Nat.add_zero ai_B)]; exact hT0
    | 1, hj =>
      cases hj
      show va_T .int (if ai_B + 1 = ai_B then b else t) 39 _ _ s s.heap
      rw [if_neg (by omega)]; exact hT1
    | j + 2, hj => cases hj
  · intro k q h; simp [ai_w] at h
  · exact ⟨fun i j x y h => by simp [ai_w] at h, fun k q h => by simp [ai_w] at h⟩
  · intro ad' H' locs' ls' hex hP' hD' hS' hans
    obtain ⟨i, a, b', bm, hat, hans⟩ := hans
    obtain ⟨hd, -⟩ := ai_atI (List.mem_of_getElem? ai_lawr) hat
    refine va_forget (fun q hq => hS'.2.2 q hq) ?_
    refine W.widen hc1 hs1 ?_
    cases i with
    | ireturn => exact lw_ret hx hb hr hlocks (ai_decL hd (Nat.succ_ne_zero _))
    | _ => cases hans
end
section
/-! runs without fuel -/
theorem ai_dj_m {X : ai_X} {i : ClassFile.Instr} {a b pc nL : Nat} {L : List (Option Value)} {st : List Value} {M : List va_E} {o : Nat × List Value × List va_E} (h : ai_m X i a b st M = some o) : ai_s i pc nL L st = none := by
  cases i <;> first | rfl | (cases h; done)
theorem ai_dj_ans {X : ai_X} {i : ClassFile.Instr} {a b pc nL : Nat} {ty : Option FieldType} {L : List (Option Value)} {st : List Value} {M : List va_E} {o : Option Value} (h : ai_ans i ty st = some o) : ai_s i pc nL L st = none ∧ ai_m X i a b st M = none := by
  cases i <;> first | exact ⟨rfl, rfl⟩ | (cases h; done)
theorem ai_dj_q {X : ai_X} {i : ClassFile.Instr} {a b pc nL : Nat} {ty : Option FieldType} {L : List (Option Value)} {st : List Value} {M : List va_E} {o : ai_R × List Value × List Value} (h : ai_q i a b st M = some o) : ai_s i pc nL L st = none ∧ ai_m X i a b st M = none ∧ ai_ans i ty st = none := by
  cases i <;> first | exact ⟨rfl, rfl, rfl⟩ | (cases h; done)
theorem ai_dj_z {X : ai_X} {i : ClassFile.Instr} {a b pc nL : Nat} {ty : Option FieldType} {L : List (Option Value)} {st : List Value} {M : List va_E} {o : List Value × List va_E} (h : ai_z i a st M = some o) : ai_s i pc nL L st = none ∧ ai_m X i a b st M = none ∧ ai_ans i ty st = none ∧ ai_q i a b st M = none := by
  cases i <;> first
    | (cases h; done)
    | (refine ⟨rfl, rfl, rfl, ?_⟩
       simp only [ai_z] at h
       split at h
       · next h9 => simp only [ai_q, h9]
       · cases h)
theorem ai_dj_a {X : ai_X} {i : ClassFile.Instr} {a b pc nL : Nat} {ty : Option FieldType} {L : List (Option Value)} {st : List Value} {M : List va_E} {o : Nat × List Value × va_E × Nat} (h : ai_a i a st = some o) : ai_s i pc nL L st = none ∧ ai_m X i a b st M = none ∧ ai_ans i ty st = none ∧ ai_q i a b st M = none ∧ ai_z i a st M = none := by
  cases i <;> first | exact ⟨rfl, rfl, rfl, rfl, rfl⟩ | (cases h; done)
theorem ai_fuel1 (X : ai_X) : ∀ (n d w : Nat) (r : ai_R) (pc : Nat) (L : List (Option Value)) (st : List Value) (M : List va_E) (c s : Nat) (o : Nat × Option Value × List va_E × Nat × Nat), ai_x X n d w r pc L st M c s = some o → ai_x X (n + 1) d w r pc L st M c s = some o := by
  intro n
  induction n with
  | zero => intro d w r pc L st M c s o h; cases h
  | succ n ih =>
    intro d w r pc L st M c s o h
    obtain ⟨i, a, b, bm, hat, hh⟩ := ai_inv h
    unfold ai_x
    rw [hat]
    rcases hh with ⟨pc', L', st', hs, h⟩ | ⟨dp, st', M', hm, h⟩ | ⟨v', hv, h⟩ | ⟨r', As, rest, hq, g1, g2, g3, g4, g5, g6, q, v', M', kc, ks, h1, h2⟩ | ⟨st', M', hz, g1, g2, h⟩ | ⟨dp, st', e, ds, ha, g1, g2, g3, g4, h⟩
    · simp only [hs]
      exact ih _ _ _ _ _ _ _ _ _ _ h
    · simp only [ai_dj_m hm, hm]
      exact ih _ _ _ _ _ _ _ _ _ _ h
    · obtain ⟨d1, d2⟩ := ai_dj_ans (X := X) (a := a) (b := b) (pc := pc) (nL := r.2.2.2.1) (L := ai_mk bm L) (M := M) hv
      simp only [d1, d2, hv]
      rw [h]
    · obtain ⟨d1, d2, d3⟩ := ai_dj_q (X := X) (pc := pc) (nL := r.2.2.2.1) (ty := r.2.2.2.2.1) (L := ai_mk bm L) hq
      have hc : (Nat.blt 0 d && Nat.ble (19 + r'.2.2.2.1) w && Nat.ble (ai_cat rest) 8 && Nat.ble (ai_cat As) r'.2.2.2.1 && (ai_mk bm L).all (ai_kl M.length) && rest.all (ai_k M.length)) = true := by
        simp only [Bool.and_eq_true]
        exact ⟨⟨⟨⟨⟨Nat.ble_eq_true_of_le g1, Nat.ble_eq_true_of_le g2⟩, Nat.ble_eq_true_of_le g3⟩, Nat.ble_eq_true_of_le g4⟩, g5⟩, g6⟩
      simp only [d1, d2, d3, hq, hc, ih _ _ _ _ _ _ _ _ _ _ h1]
      exact ih _ _ _ _ _ _ _ _ _ _ h2
    · obtain ⟨d1, d2, d3, d4⟩ := ai_dj_z (X := X) (b := b) (pc := pc) (nL := r.2.2.2.1) (ty := r.2.2.2.2.1) (L := ai_mk bm L) hz
      have hc : (Nat.blt 0 d && Nat.ble 32 w) = true := by
        simp only [Bool.and_eq_true]
        exact ⟨Nat.ble_eq_true_of_le g1, Nat.ble_eq_true_of_le g2⟩
      simp only [d1, d2, d3, d4, hz, hc]
      exact ih _ _ _ _ _ _ _ _ _ _ h
    · obtain ⟨d1, d2, d3, d4, d5⟩ := ai_dj_a (X := X) (b := b) (pc := pc) (nL := r.2.2.2.1) (ty := r.2.2.2.2.1) (L := ai_mk bm L) (M := M) ha
      have hc : (Nat.blt M.length ai_B && M.all (ai_ke M.length) && (ai_mk bm L).all (ai_kl M.length) && st'.all (ai_k M.length)) = true := by
        simp only [Bool.and_eq_true]
        exact ⟨⟨⟨Nat.ble_eq_true_of_le g1, g2⟩, g3⟩, g4⟩
      simp only [d1, d2, d3, d4, d5, ha, hc]
      exact ih _ _ _ _ _ _ _ _ _ _ h
theorem ai_fuel {X : ai_X} {n m d w : Nat} {r : ai_R} {pc : Nat} {L : List (Option Value)} {st : List Value} {M : List va_E} {c s : Nat} {o : Nat × Option Value × List va_E × Nat × Nat} (h : ai_x X n d w r pc L st M c s = some o) (hm : n ≤ m) : ai_x X m d w r pc L st M c s = some o := by
  induction hm with
  | refl => exact h
  | step _ ih => exact ai_fuel1 _ _ _ _ _ _ _ _ _ _ _ _ ih
/-- from this state the run comes to an end, with this outcome -/
def ai_T (X : ai_X) (d w : Nat) (r : ai_R) (pc : Nat) (L : List (Option Value)) (st : List Value) (M : List va_E) (c s : Nat) (o : Nat × Option Value × List va_E × Nat × Nat) : Prop := ∃ n, ai_x X n d w r pc L st M c s = some o
section AIT
variable {X : ai_X} {d w : Nat} {r : ai_R} {pc : Nat} {L : List (Option Value)} {st : List Value} {M : List va_E} {c s : Nat} {o : Nat × Option Value × List va_E × Nat × Nat} {i : ClassFile.Instr} {a b : Nat} {bm : List Bool}
theorem ai_Ts (hat : ai_at r pc = some (i, a, b, bm)) {pc' : Nat} {L' : List (Option Value)} {st' : List Value} (hs : ai_s i pc r.2.2.2.1 (ai_mk bm L) st = some (pc', L', st')) (h : ai_T X d w r pc' L' st' M c s o) : ai_T X d w r pc L st M c s o := by
  obtain ⟨n, h⟩ := h
  exact ⟨n + 1, by unfold ai_x; rw [hat]; simp only [hs]; exact h⟩
theorem ai_Tm (hat : ai_at r pc = some (i, a, b, bm)) {dp : Nat} {st' : List Value} {M' : List va_E} (hm : ai_m X i a b st M = some (dp, st', M')) (h : ai_T X d w r (pc + dp) (ai_mk bm L) st' M' c s o) : ai_T X d w r pc L st M c s o := by
  obtain ⟨n, h⟩ := h
  exact ⟨n + 1, by unfold ai_x; rw [hat]; simp only [ai_dj_m hm, hm]; exact h⟩
theorem ai_Tr (hat : ai_at r pc = some (i, a, b, bm)) {v : Option Value} (hv : ai_ans i r.2.2.2.2.1 st = some v) : ai_T X d w r pc L st M c s (pc, v, M, c, s) := by
  obtain ⟨d1, d2⟩ := ai_dj_ans (X := X) (a := a) (b := b) (pc := pc) (nL := r.2.2.2.1) (L := ai_mk bm L) (M := M) hv
  exact ⟨1, by unfold ai_x; rw [hat]; simp only [d1, d2, hv]⟩
theorem ai_Tq (hat : ai_at r pc = some (i, a, b, bm)) {r' : ai_R} {As rest : List Value} (hq : ai_q i a b st M = some (r', As, rest)) (g1 : 0 < d) (g2 : 19 + r'.2.2.2.1 ≤ w) (g3 : ai_cat rest ≤ 8) (g4 : ai_cat As ≤ r'.2.2.2.1) (g5 : (ai_mk bm L).all (ai_kl M.length) = true) (g6 : rest.all (ai_k M.length) = true) {q : Nat} {v : Option Value} {M' : List va_E} {kc ks : Nat} (h1 : ai_T X (d - 1) (w - (19 + r'.2.2.2.1)) r' 0 (ai_en r'.2.2.2.1 As) [] M 0 0 (q, v, M', kc, ks)) (h2 : ai_T X d w r (pc + 3) (ai_mk bm L) (v.toList ++ rest) M' (c + kc) (s + ks) o) : ai_T X d w r pc L st M c s o := by
  obtain ⟨n1, h1⟩ := h1
  obtain ⟨n2, h2⟩ := h2
  have h1 := ai_fuel h1 (Nat.le_max_left n1 n2)
  have h2 := ai_fuel h2 (Nat.le_max_right n1 n2)
  obtain ⟨d1, d2, d3⟩ := ai_dj_q (X := X) (pc := pc) (nL := r.2.2.2.1) (ty := r.2.2.2.2.1) (L := ai_mk bm L) hq
  have hc : (Nat.blt 0 d && Nat.ble (19 + r'.2.2.2.1) w && Nat.ble (ai_cat rest) 8 && Nat.ble (ai_cat As) r'.2.2.2.1 && (ai_mk bm L).all (ai_kl M.length) && rest.all (ai_k M.length)) = true := by
    simp only [Bool.and_eq_true]
    exact ⟨⟨⟨⟨⟨Nat.ble_eq_true_of_le g1, Nat.ble_eq_true_of_le g2⟩, Nat.ble_eq_true_of_le g3⟩, Nat.ble_eq_true_of_le g4⟩, g5⟩, g6⟩
  exact ⟨max n1 n2 + 1, by unfold ai_x; rw [hat]; simp only [d1, d2, d3, hq, hc, h1]; exact h2⟩
theorem ai_Tz (hat : ai_at r pc = some (i, a, b, bm)) {st' : List Value} {M' : List va_E} (hz : ai_z i a st M = some (st', M')) (g1 : 0 < d) (g2 : 32 ≤ w) (h : ai_T X d w r (pc + 3) (ai_mk bm L) st' M' c s o) : ai_T X d w r pc L st M c s o := by
  obtain ⟨n, h⟩ := h
  obtain ⟨d1, d2, d3, d4⟩ := ai_dj_z (X := X) (b := b) (pc := pc) (nL := r.2.2.2.1) (ty := r.2.2.2.2.1) (L := ai_mk bm L) hz
  have hc : (Nat.blt 0 d && Nat.ble 32 w) = true := by
    simp only [Bool.and_eq_true]
    exact ⟨Nat.ble_eq_true_of_le g1, Nat.ble_eq_true_of_le g2⟩
  exact ⟨n + 1, by unfold ai_x; rw [hat]; simp only [d1, d2, d3, d4, hz, hc]; exact h⟩
theorem ai_Ta (hat : ai_at r pc = some (i, a, b, bm)) {dp ds : Nat} {st' : List Value} {e : va_E} (ha : ai_a i a st = some (dp, st', e, ds)) (g1 : M.length < ai_B) (g2 : M.all (ai_ke M.length) = true) (g3 : (ai_mk bm L).all (ai_kl M.length) = true) (g4 : st'.all (ai_k M.length) = true) (h : ai_T X d w r (pc + dp) (ai_mk bm L) (.ref M.length :: st') (M ++ [e]) (c + 1) (s + ds) o) : ai_T X d w r pc L st M c s o := by
  obtain ⟨n, h⟩ := h
  obtain ⟨d1, d2, d3, d4, d5⟩ := ai_dj_a (X := X) (b := b) (pc := pc) (nL := r.2.2.2.1) (ty := r.2.2.2.2.1) (L := ai_mk bm L) (M := M) ha
  have hc : (Nat.blt M.length ai_B && M.all (ai_ke M.length) && (ai_mk bm L).all (ai_kl M.length) && st'.all (ai_k M.length)) = true := by
    simp only [Bool.and_eq_true]
    exact ⟨⟨⟨Nat.ble_eq_true_of_le g1, g2⟩, g3⟩, g4⟩
  exact ⟨n + 1, by unfold ai_x; rw [hat]; simp only [d1, d2, d3, d4, d5, ha, hc]; exact h⟩
end AIT
end
section
/-! the memory behind the constructors: its shape is fixed; m holds its ints and longs, by cell and place -/
abbrev fm : Type := (Nat → Nat → Int32) × (Nat → Nat → Int64)
def fl_fs (f : Nat → Int32) : Nat → List Value → List Value
  | _, [] => []
  | i, .int _ :: t => .int (f i) :: fl_fs f (i + 1) t
  | i, v :: t => v :: fl_fs f (i + 1) t
def fl_e (m : fm) (k : Nat) (e : va_E) : va_E := match e with
  | .inl (t, n, .inl _) => .inl (t, n, .inl (m.1 k))
  | .inl (t, n, .inr (.inl _)) => .inl (t, n, .inr (.inl (m.2 k)))
  | .inl (t, n, .inr (.inr x)) => .inl (t, n, .inr (.inr x))
  | .inr (ci, fs) => .inr (ci, fl_fs (m.1 k) 0 fs)
def fl_t : List va_E := [.inr (5, [.ref 1, .ref 2, .ref 3, .ref 4, .ref 8, .ref 12, .ref 14, .int 0]),
  .inl (3, 8, .inr (.inr (.inr (.inr (fun i => if i < 8 then some (20 + 4 * i) else none))))),
  .inl (3, 8, .inr (.inr (.inr (.inr (fun i => if i < 8 then some (22 + 4 * i) else none))))),
  .inl (1, 8, .inl (fun _ => 0)),
  .inr (1, [.ref 5, .ref 6, .ref 7]),
  .inl (2, 96, .inr (.inl (fun _ => 0))),
  .inl (0, 24, .inl (fun _ => 0)),
  .inl (2, 4, .inr (.inl (fun _ => 0))),
  .inr (4, [.ref 9, .ref 10, .ref 11]),
  .inl (1, 8, .inl (fun _ => 0)),
  .inl (1, 8, .inl (fun _ => 0)),
  .inl (0, 4, .inl (fun _ => 0)),
  .inr (3, [.ref 13]),
  .inl (0, 25, .inl (fun _ => 0)),
  .inr (2, [.ref 15, .ref 16, .ref 17, .ref 18, .ref 19, .int 0, .int 0, .int 0, .int 0, .int 0]),
  .inl (0, 4, .inl (fun _ => 0)),
  .inl (0, 60, .inl (fun _ => 0)),
  .inl (0, 32, .inl (fun _ => 0)),
  .inl (0, 8, .inl (fun _ => 0)),
  .inl (0, 8, .inl (fun _ => 0)),
  .inr (0, [.ref 21, .int 0]),
  .inl (0, 96, .inl (fun _ => 0)),
  .inr (0, [.ref 23, .int 0]),
  .inl (0, 96, .inl (fun _ => 0)),
  .inr (0, [.ref 25, .int 0]),
  .inl (0, 96, .inl (fun _ => 0)),
  .inr (0, [.ref 27, .int 0]),
  .inl (0, 96, .inl (fun _ => 0)),
  .inr (0, [.ref 29, .int 0]),
  .inl (0, 96, .inl (fun _ => 0)),
  .inr (0, [.ref 31, .int 0]),
  .inl (0, 96, .inl (fun _ => 0)),
  .inr (0, [.ref 33, .int 0]),
  .inl (0, 96, .inl (fun _ => 0)),
  .inr (0, [.ref 35, .int 0]),
  .inl (0, 96, .inl (fun _ => 0)),
  .inr (0, [.ref 37, .int 0]),
  .inl (0, 96, .inl (fun _ => 0)),
  .inr (0, [.ref 39, .int 0]),
  .inl (0, 96, .inl (fun _ => 0)),
  .inr (0, [.ref 41, .int 0]),
  .inl (0, 96, .inl (fun _ => 0)),
  .inr (0, [.ref 43, .int 0]),
  .inl (0, 96, .inl (fun _ => 0)),
  .inr (0, [.ref 45, .int 0]),
  .inl (0, 96, .inl (fun _ => 0)),
  .inr (0, [.ref 47, .int 0]),
  .inl (0, 96, .inl (fun _ => 0)),
  .inr (0, [.ref 49, .int 0]),
  .inl (0, 96, .inl (fun _ => 0)),
  .inr (0, [.ref 51, .int 0]),
  .inl (0, 96, .inl (fun _ => 0)),
  .inr (6, [.ref 53, .ref 54, .ref 55, .ref 56, .ref 57, .ref 58, .int 0, .int 0, .int 0, .ref 59, .ref 60, .int 0, .ref 61, .ref 62, .ref 63, .int 0, .ref 64, .ref 65, .ref 66, .ref 67, .int 0, .int 0, .int 0, .int 0, .int 0, .ref 68, .ref 69, .ref 70, .ref 71]),
  .inl (0, 384, .inl (fun _ => 0)),
  .inl (0, 384, .inl (fun _ => 0)),
  .inl (0, 384, .inl (fun _ => 0)),
  .inl (0, 384, .inl (fun _ => 0)),
  .inl (0, 16, .inl (fun _ => 0)),
  .inl (1, 8, .inl (fun _ => 0)),
  .inl (1, 25, .inl (fun _ => 0)),
  .inl (2, 100, .inr (.inl (fun _ => 0))),
  .inl (2, 4, .inr (.inl (fun _ => 0))),
  .inl (0, 25, .inl (fun _ => 0)),
  .inl (0, 26, .inl (fun _ => 0)),
  .inl (1, 25, .inl (fun _ => 0)),
  .inl (1, 25, .inl (fun _ => 0)),
  .inl (0, 4, .inl (fun _ => 0)),
  .inl (0, 60, .inl (fun _ => 0)),
  .inl (0, 9, .inl (fun _ => 0)),
  .inl (0, 9, .inl (fun _ => 0)),
  .inl (0, 9, .inl (fun _ => 0)),
  .inl (0, 36, .inl (fun _ => 0))]
def fl (m : fm) : List va_E := fl_t.mapIdx (fun k e => fl_e m k e)
theorem fl_at (m : fm) (k : Nat) : (fl m)[k]? = (fl_t[k]?).map (fl_e m k) := by
  unfold fl
  rw [List.getElem?_mapIdx]
theorem fl_len (m : fm) : (fl m).length = 72 := by
  unfold fl
  rw [List.length_mapIdx]
  rfl
/-- one int, one long is changed -/
def fs1 (m : fm) (k i : Nat) (x : Int32) : fm := (fun a b => if a = k ∧ b = i then x else m.1 a b, m.2)
def fs2 (m : fm) (k i : Nat) (x : Int64) : fm := (m.1, fun a b => if a = k ∧ b = i then x else m.2 a b)
theorem fl_fs_get (f : Nat → Int32) : ∀ (fs : List Value) (i b : Nat), (fl_fs f i fs)[b]? = (fs[b]?).map (fun v => match v with | .int _ => .int (f (i + b)) | v => v)
  | [], _, _ => by simp [fl_fs]
  | v :: t, i, 0 => by cases v <;> rfl
  | v :: t, i, b + 1 => by
    have h := fl_fs_get f t (i + 1) b
    rw [show i + 1 + b = i + (b + 1) by omega] at h
    have e : (fl_fs f i (v :: t))[b + 1]? = (fl_fs f (i + 1) t)[b]? := by cases v <;> rfl
    rw [e, h]
    rfl
theorem fl_ext {l1 l2 : List va_E} (h : ∀ j : Nat, l1[j]? = l2[j]?) : l1 = l2 := List.ext_getElem? h
theorem fl_e_ne {m : fm} {k i j : Nat} {x : Int32} (h : j ≠ k) (e : va_E) : fl_e (fs1 m k i x) j e = fl_e m j e := by
  have hf : (fs1 m k i x).1 j = m.1 j := by
    funext b
    show (if j = k ∧ b = i then x else m.1 j b) = _
    rw [if_neg (fun z => h z.1)]
  unfold fl_e
  rw [hf]
  rfl
theorem fl_e_ne2 {m : fm} {k i j : Nat} {x : Int64} (h : j ≠ k) (e : va_E) : fl_e (fs2 m k i x) j e = fl_e m j e := by
  have hf : (fs2 m k i x).2 j = m.2 j := by
    funext b
    show (if j = k ∧ b = i then x else m.2 j b) = _
    rw [if_neg (fun z => h z.1)]
  unfold fl_e
  rw [hf]
  rfl
theorem fl_set {m : fm} {k : Nat} {e e0 : va_E} {m' : fm} (h0 : fl_t[k]? = some e0) (he : fl_e m' k e0 = e) (hn : ∀ j, j ≠ k → ∀ z, fl_e m' j z = fl_e m j z) : (fl m).set k e = fl m' := by
  apply fl_ext
  intro j
  by_cases hj : k = j
  · subst hj
    rw [List.getElem?_set_self (by rw [fl_len]; exact (List.getElem?_eq_some_iff.mp h0).1), fl_at, h0]
    show some e = some (fl_e m' k e0)
    rw [he]
  · rw [List.getElem?_set_ne hj, fl_at, fl_at]
    cases fl_t[j]? with
    | none => rfl
    | some z =>
      show some (fl_e m j z) = some (fl_e m' j z)
      rw [hn j (fun q => hj q.symm)]
theorem fl_set1 {m : fm} {k t n i : Nat} {g : Nat → Int32} {x : Int32} (h0 : fl_t[k]? = some (.inl (t, n, .inl g))) : (fl m).set k (.inl (t, n, .inl (upd (m.1 k) i x))) = fl (fs1 m k i x) := by
  refine fl_set h0 ?_ (fun j hj z => fl_e_ne hj z)
  show (Sum.inl (t, n, Sum.inl ((fs1 m k i x).1 k)) : va_E) = _
  congr 4
  funext b
  show (if k = k ∧ b = i then x else m.1 k b) = (if b = i then x else m.1 k b)
  by_cases hb : b = i
  · rw [if_pos ⟨rfl, hb⟩, if_pos hb]
  · rw [if_neg (fun z => hb z.2), if_neg hb]
theorem fl_set2 {m : fm} {k t n i : Nat} {g : Nat → Int64} {x : Int64} (h0 : fl_t[k]? = some (.inl (t, n, .inr (.inl g)))) : (fl m).set k (.inl (t, n, .inr (.inl (vp_updL (m.2 k) i x)))) = fl (fs2 m k i x) := by
  refine fl_set h0 ?_ (fun j hj z => fl_e_ne2 hj z)
  show (Sum.inl (t, n, Sum.inr (Sum.inl ((fs2 m k i x).2 k))) : va_E) = _
  congr 5
  funext b
  show (if k = k ∧ b = i then x else m.2 k b) = (if b = i then x else m.2 k b)
  by_cases hb : b = i
  · rw [if_pos ⟨rfl, hb⟩, if_pos hb]
  · rw [if_neg (fun z => hb z.2), if_neg hb]
theorem fl_setf {m : fm} {k ci b : Nat} {fs : List Value} {x z0 : Int32} (h0 : fl_t[k]? = some (.inr (ci, fs))) (hb : fs[b]? = some (.int z0)) : (fl m).set k (.inr (ci, (fl_fs (m.1 k) 0 fs).set b (.int x))) = fl (fs1 m k b x) := by
  refine fl_set h0 ?_ (fun j hj z => fl_e_ne hj z)
  show (Sum.inr (ci, fl_fs ((fs1 m k b x).1 k) 0 fs) : va_E) = _
  congr 2
  apply List.ext_getElem?
  intro j
  rw [fl_fs_get]
  by_cases hj : b = j
  · subst hj
    have hl : b < (fl_fs (m.1 k) 0 fs).length := by
      have h5 := fl_fs_get (m.1 k) fs 0 b
      rw [hb] at h5
      exact (List.getElem?_eq_some_iff.mp h5).1
    rw [List.getElem?_set_self hl, hb]
    show some (Value.int (if k = k ∧ 0 + b = b then x else _)) = _
    rw [if_pos ⟨rfl, by omega⟩]
  · rw [List.getElem?_set_ne hj, fl_fs_get]
    cases fs[j]? with
    | none => rfl
    | some v =>
      cases v with
      | int y =>
        show some (Value.int (if k = k ∧ 0 + j = b then x else m.1 k (0 + j))) = some (Value.int (m.1 k (0 + j)))
        rw [if_neg (fun z => hj (by omega))]
      | _ => rfl
end
section
/-- over the flat memory: from this state the run comes to an end with Q of the answer and the memory -/
def fT (X : ai_X) (d w : Nat) (r : ai_R) (pc : Nat) (L : List (Option Value)) (st : List Value) (m : fm) (Q : Option Value → fm → Prop) : Prop := ∃ (pc1 : Nat) (v : Option Value) (m1 : fm), (∀ c s : Nat, ai_T X d w r pc L st (fl m) c s (pc1, v, fl m1, c, s)) ∧ Q v m1
section FT
variable {X : ai_X} {d w : Nat} {r : ai_R} {pc : Nat} {L : List (Option Value)} {st : List Value} {m : fm} {Q : Option Value → fm → Prop} {i : ClassFile.Instr} {a b : Nat} {bm : List Bool}
theorem fT_w {Q' : Option Value → fm → Prop} (h : fT X d w r pc L st m Q') (hq : ∀ v m1, Q' v m1 → Q v m1) : fT X d w r pc L st m Q := by
  obtain ⟨pc1, v, m1, h, q⟩ := h
  exact ⟨pc1, v, m1, h, hq v m1 q⟩
theorem fT_s (hat : ai_at r pc = some (i, a, b, bm)) {pc' : Nat} {L' : List (Option Value)} {st' : List Value} (hs : ai_s i pc r.2.2.2.1 (ai_mk bm L) st = some (pc', L', st')) (h : fT X d w r pc' L' st' m Q) : fT X d w r pc L st m Q := by
  obtain ⟨pc1, v, m1, h, q⟩ := h
  exact ⟨pc1, v, m1, fun c s => ai_Ts hat hs (h c s), q⟩
theorem fT_m (hat : ai_at r pc = some (i, a, b, bm)) {dp : Nat} {st' : List Value} {m' : fm} (hm : ai_m X i a b st (fl m) = some (dp, st', fl m')) (h : fT X d w r (pc + dp) (ai_mk bm L) st' m' Q) : fT X d w r pc L st m Q := by
  obtain ⟨pc1, v, m1, h, q⟩ := h
  exact ⟨pc1, v, m1, fun c s => ai_Tm hat hm (h c s), q⟩
theorem fT_z (hat : ai_at r pc = some (i, a, b, bm)) {st' : List Value} {m' : fm} (hz : ai_z i a st (fl m) = some (st', fl m')) (g1 : 0 < d) (g2 : 32 ≤ w) (h : fT X d w r (pc + 3) (ai_mk bm L) st' m' Q) : fT X d w r pc L st m Q := by
  obtain ⟨pc1, v, m1, h, q⟩ := h
  exact ⟨pc1, v, m1, fun c s => ai_Tz hat hz g1 g2 (h c s), q⟩
theorem fT_r (hat : ai_at r pc = some (i, a, b, bm)) {v : Option Value} (hv : ai_ans i r.2.2.2.2.1 st = some v) (hq : Q v m) : fT X d w r pc L st m Q :=
  ⟨pc, v, m, fun _ _ => ai_Tr hat hv, hq⟩
theorem fT_q (hat : ai_at r pc = some (i, a, b, bm)) {r' : ai_R} {As rest : List Value} (hq : ai_q i a b st (fl m) = some (r', As, rest)) (g1 : 0 < d) (g2 : 19 + r'.2.2.2.1 ≤ w) (g3 : ai_cat rest ≤ 8) (g4 : ai_cat As ≤ r'.2.2.2.1) (g5 : (ai_mk bm L).all (ai_kl 72) = true) (g6 : rest.all (ai_k 72) = true) {Qc : Option Value → fm → Prop} (h1 : fT X (d - 1) (w - (19 + r'.2.2.2.1)) r' 0 (ai_en r'.2.2.2.1 As) [] m Qc) (h2 : ∀ v m1, Qc v m1 → fT X d w r (pc + 3) (ai_mk bm L) (v.toList ++ rest) m1 Q) : fT X d w r pc L st m Q := by
  obtain ⟨pc1, v1, m1, h1, q1⟩ := h1
  obtain ⟨pc2, v2, m2, h2, q2⟩ := h2 v1 m1 q1
  exact ⟨pc2, v2, m2, fun c s => ai_Tq hat hq g1 g2 g3 g4 (by rw [fl_len]; exact g5) (by rw [fl_len]; exact g6) (h1 0 0) (h2 (c + 0) (s + 0)), q2⟩
theorem fT_if {cd : ClassFile.Cond} {off : Int} {x : Int32} {t : Nat} (hat : ai_at r pc = some (.ifCond cd off, a, b, bm)) (ht : (pc : Int) + off = (t : Int)) (h1 : ai_c cd x 0 = true → fT X d w r t (ai_mk bm L) st m Q) (h2 : ai_c cd x 0 = false → fT X d w r (pc + 3) (ai_mk bm L) st m Q) : fT X d w r pc L (.int x :: st) m Q := by
  cases hc : ai_c cd x 0 with
  | true =>
    refine fT_s hat (pc' := t) (L' := ai_mk bm L) (st' := st) ?_ (h1 hc)
    show ai_j (ai_c cd x 0) pc off (ai_mk bm L) st = _
    unfold ai_j
    rw [hc, ht]
  | false =>
    refine fT_s hat (pc' := pc + 3) (L' := ai_mk bm L) (st' := st) ?_ (h2 hc)
    show ai_j (ai_c cd x 0) pc off (ai_mk bm L) st = _
    unfold ai_j
    rw [hc, ht]
theorem fT_ic {cd : ClassFile.Cond} {off : Int} {x y : Int32} {t : Nat} (hat : ai_at r pc = some (.if_icmp cd off, a, b, bm)) (ht : (pc : Int) + off = (t : Int)) (h1 : ai_c cd x y = true → fT X d w r t (ai_mk bm L) st m Q) (h2 : ai_c cd x y = false → fT X d w r (pc + 3) (ai_mk bm L) st m Q) : fT X d w r pc L (.int y :: .int x :: st) m Q := by
  cases hc : ai_c cd x y with
  | true =>
    refine fT_s hat (pc' := t) (L' := ai_mk bm L) (st' := st) ?_ (h1 hc)
    show ai_j (ai_c cd x y) pc off (ai_mk bm L) st = _
    unfold ai_j
    rw [hc, ht]
  | false =>
    refine fT_s hat (pc' := pc + 3) (L' := ai_mk bm L) (st' := st) ?_ (h2 hc)
    show ai_j (ai_c cd x y) pc off (ai_mk bm L) st = _
    unfold ai_j
    rw [hc, ht]
theorem fl_o {k ci : Nat} {fs : List Value} (hk : fl_t[k]? = some (.inr (ci, fs))) : (fl m)[k]? = some (.inr (ci, fl_fs (m.1 k) 0 fs)) := by rw [fl_at, hk]; rfl
theorem fl_i {k t n : Nat} {g : Nat → Int32} (hk : fl_t[k]? = some (.inl (t, n, .inl g))) : (fl m)[k]? = some (.inl (t, n, .inl (m.1 k))) := by rw [fl_at, hk]; rfl
theorem fl_l {k t n : Nat} {g : Nat → Int64} (hk : fl_t[k]? = some (.inl (t, n, .inr (.inl g)))) : (fl m)[k]? = some (.inl (t, n, .inr (.inl (m.2 k)))) := by rw [fl_at, hk]; rfl
theorem fl_r {k t n : Nat} {g : Nat → Option Nat} (hk : fl_t[k]? = some (.inl (t, n, .inr (.inr (.inr (.inr g)))))) : (fl m)[k]? = some (.inl (t, n, .inr (.inr (.inr (.inr g))))) := by rw [fl_at, hk]; rfl
theorem fT_gi {x k : Nat} {fs : List Value} {z : Int32} (hat : ai_at r pc = some (.getfield x, a, b, bm)) (hk : fl_t[k]? = some (.inr (a, fs))) (hb : fs[b]? = some (.int z)) (h : fT X d w r (pc + 3) (ai_mk bm L) (.int (m.1 k b) :: st) m Q) : fT X d w r pc L (.ref k :: st) m Q := by
  refine fT_m hat (dp := 3) (m' := m) ?_ h
  have e : (fl_fs (m.1 k) 0 fs)[b]? = some (.int (m.1 k b)) := by
    rw [fl_fs_get, hb]
    show some (Value.int (m.1 k (0 + b))) = _
    rw [Nat.zero_add]
  simp only [ai_m, fl_o hk, Nat.beq_refl, e]
  rfl
theorem fT_gr {x k q : Nat} {fs : List Value} (hat : ai_at r pc = some (.getfield x, a, b, bm)) (hk : fl_t[k]? = some (.inr (a, fs))) (hb : fs[b]? = some (.ref q)) (h : fT X d w r (pc + 3) (ai_mk bm L) (.ref q :: st) m Q) : fT X d w r pc L (.ref k :: st) m Q := by
  refine fT_m hat (dp := 3) (m' := m) ?_ h
  have e : (fl_fs (m.1 k) 0 fs)[b]? = some (.ref q) := by rw [fl_fs_get, hb]; rfl
  simp only [ai_m, fl_o hk, Nat.beq_refl, e]
  rfl
theorem fT_pi {x k : Nat} {fs : List Value} {z y : Int32} {ty : FieldType} (hat : ai_at r pc = some (.putfield x, a, b, bm)) (hk : fl_t[k]? = some (.inr (a, fs))) (hb : fs[b]? = some (.int z)) (hty : ai_ft a b = some ty) (hf : ai_fit ty (.int y) = true) (h : fT X d w r (pc + 3) (ai_mk bm L) st (fs1 m k b y) Q) : fT X d w r pc L (.int y :: .ref k :: st) m Q := by
  refine fT_m hat (dp := 3) (m' := fs1 m k b y) ?_ h
  have hl : Nat.blt b (fl_fs (m.1 k) 0 fs).length = true := by
    have h5 := fl_fs_get (m.1 k) fs 0 b
    rw [hb] at h5
    exact Nat.ble_eq_true_of_le (List.getElem?_eq_some_iff.mp h5).1
  simp only [ai_m, fl_o hk, Nat.beq_refl, hl, hty, hf, Bool.and_self]
  rw [fl_setf hk hb]
theorem fT_ia {k n : Nat} {g : Nat → Int32} {j : Int32} (hat : ai_at r pc = some (.iaload, a, b, bm)) (hk : fl_t[k]? = some (.inl (0, n, .inl g))) (hkB : Nat.ble ai_B k = false) (hi : ai_in j n = true) (h : fT X d w r (pc + 1) (ai_mk bm L) (.int (m.1 k j.toNatClampNeg) :: st) m Q) : fT X d w r pc L (.int j :: .ref k :: st) m Q := by
  refine fT_m hat (dp := 1) (m' := m) ?_ h
  have e : ai_ial X (fl m) k j = some (.int (m.1 k j.toNatClampNeg)) := by
    unfold ai_ial
    simp only [hkB, fl_i hk, hi]
  show ai_ret3 (ai_ial X (fl m) k j) 1 st (fl m) = _
  rw [e]
  rfl
theorem fT_sh {n k : Nat} {f : Nat → Int32} {j : Int32} (hat : ai_at r pc = some (.iaload, a, b, bm)) (hkB : Nat.ble ai_B k = true) (hX : X[k - ai_B]? = some (n, f)) (hi : ai_in j n = true) (h : fT X d w r (pc + 1) (ai_mk bm L) (.int (f j.toNatClampNeg) :: st) m Q) : fT X d w r pc L (.int j :: .ref k :: st) m Q := by
  refine fT_m hat (dp := 1) (m' := m) ?_ h
  have e : ai_ial X (fl m) k j = some (.int (f j.toNatClampNeg)) := by
    unfold ai_ial
    simp only [hkB, hX, hi]
  show ai_ret3 (ai_ial X (fl m) k j) 1 st (fl m) = _
  rw [e]
  rfl
theorem fT_ba {k n : Nat} {g : Nat → Int32} {j : Int32} (hat : ai_at r pc = some (.baload, a, b, bm)) (hk : fl_t[k]? = some (.inl (1, n, .inl g))) (hi : ai_in j n = true) (h : fT X d w r (pc + 1) (ai_mk bm L) (.int (m.1 k j.toNatClampNeg) :: st) m Q) : fT X d w r pc L (.int j :: .ref k :: st) m Q := by
  refine fT_m hat (dp := 1) (m' := m) ?_ h
  simp only [ai_m, fl_i hk, hi]
theorem fT_la {k n : Nat} {g : Nat → Int64} {j : Int32} (hat : ai_at r pc = some (.laload, a, b, bm)) (hk : fl_t[k]? = some (.inl (2, n, .inr (.inl g)))) (hi : ai_in j n = true) (h : fT X d w r (pc + 1) (ai_mk bm L) (.long (m.2 k j.toNatClampNeg) :: st) m Q) : fT X d w r pc L (.int j :: .ref k :: st) m Q := by
  refine fT_m hat (dp := 1) (m' := m) ?_ h
  simp only [ai_m, fl_l hk, hi]
theorem fT_aa {k n q : Nat} {g : Nat → Option Nat} {j : Int32} (hat : ai_at r pc = some (.aaload, a, b, bm)) (hk : fl_t[k]? = some (.inl (3, n, .inr (.inr (.inr (.inr g)))))) (hi : ai_in j n = true) (hg : g j.toNatClampNeg = some q) (h : fT X d w r (pc + 1) (ai_mk bm L) (.ref q :: st) m Q) : fT X d w r pc L (.int j :: .ref k :: st) m Q := by
  refine fT_m hat (dp := 1) (m' := m) ?_ h
  simp only [ai_m, fl_r hk, hi, hg]
  rfl
theorem fT_is {k n : Nat} {g : Nat → Int32} {j x : Int32} (hat : ai_at r pc = some (.iastore, a, b, bm)) (hk : fl_t[k]? = some (.inl (0, n, .inl g))) (hi : ai_in j n = true) (h : fT X d w r (pc + 1) (ai_mk bm L) st (fs1 m k j.toNatClampNeg x) Q) : fT X d w r pc L (.int x :: .int j :: .ref k :: st) m Q := by
  refine fT_m hat (dp := 1) (m' := fs1 m k j.toNatClampNeg x) ?_ h
  simp only [ai_m, fl_i hk, hi]
  rw [fl_set1 hk]
theorem fT_bs {k n : Nat} {g : Nat → Int32} {j x : Int32} (hat : ai_at r pc = some (.bastore, a, b, bm)) (hk : fl_t[k]? = some (.inl (1, n, .inl g))) (hi : ai_in j n = true) (h : fT X d w r (pc + 1) (ai_mk bm L) st (fs1 m k j.toNatClampNeg (vp_nar .boolean x)) Q) : fT X d w r pc L (.int x :: .int j :: .ref k :: st) m Q := by
  refine fT_m hat (dp := 1) (m' := fs1 m k j.toNatClampNeg (vp_nar .boolean x)) ?_ h
  simp only [ai_m, fl_i hk, hi]
  rw [fl_set1 hk]
theorem fT_ls {k n : Nat} {g : Nat → Int64} {j : Int32} {x : Int64} (hat : ai_at r pc = some (.lastore, a, b, bm)) (hk : fl_t[k]? = some (.inl (2, n, .inr (.inl g)))) (hi : ai_in j n = true) (h : fT X d w r (pc + 1) (ai_mk bm L) st (fs2 m k j.toNatClampNeg x) Q) : fT X d w r pc L (.long x :: .int j :: .ref k :: st) m Q := by
  refine fT_m hat (dp := 1) (m' := fs2 m k j.toNatClampNeg x) ?_ h
  simp only [ai_m, fl_l hk, hi]
  rw [fl_set2 hk]
theorem fT_gs {x : Nat} (hat : ai_at r pc = some (.getstatic x, a, b, bm)) (h : fT X d w r (pc + 3) (ai_mk bm L) (.ref (ai_B + a) :: st) m Q) : fT X d w r pc L st m Q :=
  fT_m hat (dp := 3) (m' := m) rfl h
theorem fT_lc {x : Nat} (hat : ai_at r pc = some (.ldc2_w x, a, b, bm)) (h : fT X d w r (pc + 3) (ai_mk bm L) (.long (Int64.ofNat a) :: st) m Q) : fT X d w r pc L st m Q :=
  fT_m hat (dp := 3) (m' := m) rfl h
end FT
end
section
section FQ
variable {X : ai_X} {d w : Nat} {r : ai_R} {pc : Nat} {L : List (Option Value)} {st : List Value} {m : fm} {Q : Option Value → fm → Prop} {a b : Nat} {bm : List Bool}
/-- a call of an object's method; r' is its row, k the object, As the other arguments -/
theorem fT_qv {x k ci : Nat} {r' : ai_R} {fs As rest : List Value} {Qc : Option Value → fm → Prop} (hat : ai_at r pc = some (.invokevirtual x, a, b, bm)) (hr : ai_ms[b]? = some r') (hst : (st.take r'.2.2.2.2.2.1).reverse = .ref k :: As) (hre : st.drop r'.2.2.2.2.2.1 = rest) (hk : fl_t[k]? = some (.inr (ci, fs))) (hc : (Nat.beq ci r'.1 && Nat.beq (As.length + 1) r'.2.2.2.2.2.1) = true) (g1 : 0 < d) (g2 : 19 + r'.2.2.2.1 ≤ w) (g3 : ai_cat rest ≤ 8) (g4 : ai_cat (.ref k :: As) ≤ r'.2.2.2.1) (g5 : (ai_mk bm L).all (ai_kl 72) = true) (g6 : rest.all (ai_k 72) = true) (h1 : fT X (d - 1) (w - (19 + r'.2.2.2.1)) r' 0 (ai_en r'.2.2.2.1 (.ref k :: As)) [] m Qc) (h2 : ∀ v m1, Qc v m1 → fT X d w r (pc + 3) (ai_mk bm L) (v.toList ++ rest) m1 Q) : fT X d w r pc L st m Q := by
  refine fT_q hat ?_ g1 g2 g3 g4 g5 g6 h1 h2
  simp only [ai_q, hr, hst, fl_o hk, hc, hre]
theorem fT_qs {x : Nat} {r' : ai_R} {As rest : List Value} {Qc : Option Value → fm → Prop} (hat : ai_at r pc = some (.invokestatic x, a, b, bm)) (ha : Nat.beq a 8 = false) (hr : ai_ms[b]? = some r') (hst : (st.take r'.2.2.2.2.2.1).reverse = As) (hre : st.drop r'.2.2.2.2.2.1 = rest) (hc : Nat.beq (st.take r'.2.2.2.2.2.1).length r'.2.2.2.2.2.1 = true) (g1 : 0 < d) (g2 : 19 + r'.2.2.2.1 ≤ w) (g3 : ai_cat rest ≤ 8) (g4 : ai_cat As ≤ r'.2.2.2.1) (g5 : (ai_mk bm L).all (ai_kl 72) = true) (g6 : rest.all (ai_k 72) = true) (h1 : fT X (d - 1) (w - (19 + r'.2.2.2.1)) r' 0 (ai_en r'.2.2.2.1 As) [] m Qc) (h2 : ∀ v m1, Qc v m1 → fT X d w r (pc + 3) (ai_mk bm L) (v.toList ++ rest) m1 Q) : fT X d w r pc L st m Q := by
  refine fT_q hat ?_ g1 g2 g3 g4 g5 g6 h1 h2
  simp only [ai_q, ha, hr, hst, hc, hre]
end FQ
section FI
variable {X : ai_X} {d w : Nat} {r : ai_R} {pc : Nat} {L : List (Option Value)} {st : List Value} {m : fm} {Q : Option Value → fm → Prop} {a b : Nat} {bm : List Bool}
theorem fT_ifT {cd : ClassFile.Cond} {off : Int} {x : Int32} {t : Nat} (hat : ai_at r pc = some (.ifCond cd off, a, b, bm)) (ht : (pc : Int) + off = (t : Int)) (hc : ai_c cd x 0 = true) (h : fT X d w r t (ai_mk bm L) st m Q) : fT X d w r pc L (.int x :: st) m Q :=
  fT_if hat ht (fun _ => h) (fun h2 => absurd (hc.symm.trans h2) (by decide))
theorem fT_ifF {cd : ClassFile.Cond} {off : Int} {x : Int32} {t : Nat} (hat : ai_at r pc = some (.ifCond cd off, a, b, bm)) (ht : (pc : Int) + off = (t : Int)) (hc : ai_c cd x 0 = false) (h : fT X d w r (pc + 3) (ai_mk bm L) st m Q) : fT X d w r pc L (.int x :: st) m Q :=
  fT_if hat ht (fun h2 => absurd (h2.symm.trans hc) (by decide)) (fun _ => h)
theorem fT_icT {cd : ClassFile.Cond} {off : Int} {x y : Int32} {t : Nat} (hat : ai_at r pc = some (.if_icmp cd off, a, b, bm)) (ht : (pc : Int) + off = (t : Int)) (hc : ai_c cd x y = true) (h : fT X d w r t (ai_mk bm L) st m Q) : fT X d w r pc L (.int y :: .int x :: st) m Q :=
  fT_ic hat ht (fun _ => h) (fun h2 => absurd (hc.symm.trans h2) (by decide))
theorem fT_icF {cd : ClassFile.Cond} {off : Int} {x y : Int32} {t : Nat} (hat : ai_at r pc = some (.if_icmp cd off, a, b, bm)) (ht : (pc : Int) + off = (t : Int)) (hc : ai_c cd x y = false) (h : fT X d w r (pc + 3) (ai_mk bm L) st m Q) : fT X d w r pc L (.int y :: .int x :: st) m Q :=
  fT_ic hat ht (fun h2 => absurd (h2.symm.trans hc) (by decide)) (fun _ => h)
end FI
end
section
/-! the bytecode as functions over the flat memory: the words that they are made of, and a rule for each -/
def ob {β : Type} (o : Option β) (K : β → Prop) : Prop := match o with
  | none => False
  | some b => K b
def lf : Nat := 20000
/-- a loop: it goes on with a state, or comes to an end -/
def wl {S β : Type} (f : S → Option (S ⊕ β)) : Nat → S → Option β
  | 0, _ => none
  | n + 1, s => match f s with
    | none => none
    | some (.inl s') => wl f n s'
    | some (.inr b) => some b
def ldI {β : Type} (m : fm) (k n : Nat) (j : Int32) (f : Int32 → Option β) : Option β := bif ai_in j n then f (m.1 k j.toNatClampNeg) else none
def ldL {β : Type} (m : fm) (k n : Nat) (j : Int32) (f : Int64 → Option β) : Option β := bif ai_in j n then f (m.2 k j.toNatClampNeg) else none
def ldA {β : Type} (b : Nat) (j : Int32) (f : Nat → Option β) : Option β := bif ai_in j 8 then f (b + 4 * j.toNatClampNeg) else none
def ldS {β : Type} (j : Int32) (f : Int32 → Option β) : Option β := bif ai_in j 39 then f (ai_sh j.toNatClampNeg) else none
def ldX {β : Type} (N : Nat) (xs : Nat → Int32) (j : Int32) (f : Int32 → Option β) : Option β := bif ai_in j N then f (xs j.toNatClampNeg) else none
def stI {β : Type} (m : fm) (k n : Nat) (j x : Int32) (f : fm → Option β) : Option β := bif ai_in j n then f (fs1 m k j.toNatClampNeg x) else none
def stB {β : Type} (m : fm) (k n : Nat) (j x : Int32) (f : fm → Option β) : Option β := bif ai_in j n then f (fs1 m k j.toNatClampNeg (vp_nar .boolean x)) else none
def stL {β : Type} (m : fm) (k n : Nat) (j : Int32) (x : Int64) (f : fm → Option β) : Option β := bif ai_in j n then f (fs2 m k j.toNatClampNeg x) else none
def gfI {β : Type} (m : fm) (k b : Nat) (f : Int32 → Option β) : Option β := f (m.1 k b)
def pfI {β : Type} (m : fm) (k b : Nat) (y : Int32) (f : fm → Option β) : Option β := f (fs1 m k b y)
def isB (y : Int32) : Bool := decide (y = 0) || decide (y = 1)
def pfB {β : Type} (m : fm) (k b : Nat) (y : Int32) (f : fm → Option β) : Option β := bif isB y then f (fs1 m k b y) else none
def rtB {β : Type} (y : Int32) (o : Option β) : Option β := bif isB y then o else none
def cl2 {α β : Type} (o : Option (α × fm)) (f : α → fm → Option β) : Option β := match o with
  | none => none
  | some r => f r.1 r.2
def cl1 {β : Type} (o : Option fm) (f : fm → Option β) : Option β := match o with
  | none => none
  | some r => f r
def dvI {β : Type} (x y : Int32) (f : Int32 → Option β) : Option β := if y = 0 then none else f (x / y)
def rmI {β : Type} (x y : Int32) (f : Int32 → Option β) : Option β := if y = 0 then none else f (x - x / y * y)
def cpy1 (m : fm) (k0 sp k1 dp n : Nat) : fm := (fun a b => if a = k1 ∧ dp ≤ b ∧ b < dp + n then m.1 k0 (sp + (b - dp)) else m.1 a b, m.2)
def cpy2 (m : fm) (k0 sp k1 dp n : Nat) : fm := (m.1, fun a b => if a = k1 ∧ dp ≤ b ∧ b < dp + n then m.2 k0 (sp + (b - dp)) else m.2 a b)
def cpok (sp dp n : Int32) (n0 n1 : Nat) : Bool := (!(decide (sp < 0)) && !(decide (dp < 0)) && !(decide (n < 0))) && (Nat.ble (sp.toNatClampNeg + n.toNatClampNeg) n0 && Nat.ble (dp.toNatClampNeg + n.toNatClampNeg) n1)
def cpI {β : Type} (m : fm) (k0 n0 : Nat) (sp : Int32) (k1 n1 : Nat) (dp n : Int32) (f : fm → Option β) : Option β := bif cpok sp dp n n0 n1 then f (cpy1 m k0 sp.toNatClampNeg k1 dp.toNatClampNeg n.toNatClampNeg) else none
def cpL {β : Type} (m : fm) (k0 n0 : Nat) (sp : Int32) (k1 n1 : Nat) (dp n : Int32) (f : fm → Option β) : Option β := bif cpok sp dp n n0 n1 then f (cpy2 m k0 sp.toNatClampNeg k1 dp.toNatClampNeg n.toNatClampNeg) else none
def plk {β : Type} (x : Int32) (f : Nat → Option β) : Option β := bif ai_c .ne x 0 then f 22 else f 20
/-- k is the address of a Code -/
def isC (k : Nat) : Prop := fl_t[k]? = some (.inr (0, [.ref (k + 1), .int 0])) ∧ fl_t[k + 1]? = some (.inl (0, 96, .inl (fun _ => 0))) ∧ Nat.blt k 72 = true ∧ Nat.blt (k + 1) 72 = true ∧ Nat.ble ai_B (k + 1) = false
theorem isC_p : ∀ j, j < 8 → isC (20 + 4 * j)
  | 0, _ => ⟨rfl, rfl, rfl, rfl, rfl⟩
  | 1, _ => ⟨rfl, rfl, rfl, rfl, rfl⟩
  | 2, _ => ⟨rfl, rfl, rfl, rfl, rfl⟩
  | 3, _ => ⟨rfl, rfl, rfl, rfl, rfl⟩
  | 4, _ => ⟨rfl, rfl, rfl, rfl, rfl⟩
  | 5, _ => ⟨rfl, rfl, rfl, rfl, rfl⟩
  | 6, _ => ⟨rfl, rfl, rfl, rfl, rfl⟩
  | 7, _ => ⟨rfl, rfl, rfl, rfl, rfl⟩
  | j + 8, h => absurd h (by omega)
theorem isC_s : ∀ j, j < 8 → isC (22 + 4 * j)
  | 0, _ => ⟨rfl, rfl, rfl, rfl, rfl⟩
  | 1, _ => ⟨rfl, rfl, rfl, rfl, rfl⟩
  | 2, _ => ⟨rfl, rfl, rfl, rfl, rfl⟩
  | 3, _ => ⟨rfl, rfl, rfl, rfl, rfl⟩
  | 4, _ => ⟨rfl, rfl, rfl, rfl, rfl⟩
  | 5, _ => ⟨rfl, rfl, rfl, rfl, rfl⟩
  | 6, _ => ⟨rfl, rfl, rfl, rfl, rfl⟩
  | 7, _ => ⟨rfl, rfl, rfl, rfl, rfl⟩
  | j + 8, h => absurd h (by omega)
/-- p is the address of an array of Codes, the first of which lies at b -/
def isP (p b : Nat) : Prop := fl_t[p]? = some (.inl (3, 8, .inr (.inr (.inr (.inr (fun i => if i < 8 then some (b + 4 * i) else none)))))) ∧ (∀ j, j < 8 → isC (b + 4 * j)) ∧ Nat.blt p 72 = true
theorem isP_1 : isP 1 20 := ⟨rfl, isC_p, rfl⟩
theorem isP_2 : isP 2 22 := ⟨rfl, isC_s, rfl⟩
theorem kl_c {k : Nat} (h : Nat.blt k 72 = true) : ai_kl 72 (some (.ref k)) = true := by
  show (Nat.blt k 72 || Nat.ble ai_B k) = true
  rw [h]
  rfl
theorem k_c {k : Nat} (h : Nat.blt k 72 = true) : ai_k 72 (.ref k) = true := by
  show (Nat.blt k 72 || Nat.ble ai_B k) = true
  rw [h]
  rfl
theorem and_t {a b : Bool} (h1 : a = true) (h2 : b = true) : (a && b) = true := by rw [h1, h2]; rfl
theorem ob_if {β : Type} {c : Bool} {o1 o2 : Option β} {K : β → Prop} (h : ob (bif c then o1 else o2) K) : (c = true ∧ ob o1 K) ∨ (c = false ∧ ob o2 K) := by
  cases c with
  | true => exact Or.inl ⟨rfl, h⟩
  | false => exact Or.inr ⟨rfl, h⟩
theorem ob_g {β : Type} {c : Bool} {o1 : Option β} {K : β → Prop} (h : ob (bif c then o1 else none) K) : c = true ∧ ob o1 K := by
  cases c with
  | true => exact ⟨rfl, h⟩
  | false => exact h.elim
theorem ob_cl2 {α β : Type} {o : Option (α × fm)} {f : α → fm → Option β} {K : β → Prop} (h : ob (cl2 o f) K) : ob o (fun r => ob (f r.1 r.2) K) := by
  cases o with
  | none => exact h
  | some r => exact h
theorem ob_cl1 {β : Type} {o : Option fm} {f : fm → Option β} {K : β → Prop} (h : ob (cl1 o f) K) : ob o (fun r => ob (f r) K) := by
  cases o with
  | none => exact h
  | some r => exact h
theorem ob_mapR {S β : Type} {o : Option β} {P : S → Prop} {K : β → Prop} (h : ob (o.map (Sum.inr : β → S ⊕ β)) (Sum.elim P K)) : ob o K := by
  cases o with
  | none => exact h
  | some r => exact h
theorem wl_ob {S β : Type} {f : S → Option (S ⊕ β)} {K : β → Prop} {P : S → Prop} (hs : ∀ s, ob (f s) (Sum.elim P K) → P s) : ∀ n s, ob (wl f n s) K → P s
  | 0, s, h => h.elim
  | n + 1, s, h => by
    apply hs
    unfold wl at h
    cases hf : f s with
    | none => rw [hf] at h; exact h.elim
    | some x =>
      rw [hf] at h
      cases x with
      | inl s' => exact wl_ob hs n s' h
      | inr b => exact h
/-- n instructions on locals and stack alone -/
def ai_ss (r : ai_R) : Nat → Nat → List (Option Value) → List Value → Option (Nat × List (Option Value) × List Value)
  | 0, pc, L, st => some (pc, L, st)
  | n + 1, pc, L, st => match ai_at r pc with
    | none => none
    | some (i, _, _, bm) => match ai_s i pc r.2.2.2.1 (ai_mk bm L) st with
      | some (pc', L', st') => ai_ss r n pc' L' st'
      | none => none
theorem ai_mk_mk : ∀ (bm : List Bool) (L : List (Option Value)), ai_mk bm (ai_mk bm L) = ai_mk bm L
  | [], L => by unfold ai_mk; rfl
  | b :: bm, [] => by cases b <;> rfl
  | true :: bm, x :: t => congrArg (x :: ·) (ai_mk_mk bm t)
  | false :: bm, x :: t => congrArg (none :: ·) (ai_mk_mk bm t)
section OB
variable {X : ai_X} {d w : Nat} {r : ai_R} {pc : Nat} {L : List (Option Value)} {st : List Value} {m : fm} {Q : Option Value → fm → Prop} {i : ClassFile.Instr} {a b : Nat} {bm : List Bool} {β : Type} {K : β → Prop}
theorem fT_ss (n : Nat) {pc' : Nat} {L' : List (Option Value)} {st' : List Value} (hs : ai_ss r n pc L st = some (pc', L', st')) (h : fT X d w r pc' L' st' m Q) : fT X d w r pc L st m Q := by
  induction n generalizing pc L st with
  | zero => cases hs; exact h
  | succ n ih =>
    unfold ai_ss at hs
    cases hat : ai_at r pc with
    | none => rw [hat] at hs; cases hs
    | some z =>
      obtain ⟨i, a, b, bm⟩ := z
      rw [hat] at hs
      cases h1 : ai_s i pc r.2.2.2.1 (ai_mk bm L) st with
      | none => simp only [h1] at hs; cases hs
      | some y =>
        obtain ⟨p2, L2, s2⟩ := y
        simp only [h1] at hs
        exact fT_s hat h1 (ih hs)
theorem fT_mk (hat : ai_at r pc = some (i, a, b, bm)) {L' : List (Option Value)} (hL : ai_mk bm L = L') (h : fT X d w r pc L' st m Q) : fT X d w r pc L st m Q := by
  obtain ⟨pc1, v, m1, h, q⟩ := h
  refine ⟨pc1, v, m1, fun c s => ?_, q⟩
  obtain ⟨n, h⟩ := h c s
  refine ⟨n, ?_⟩
  cases n with
  | zero => cases h
  | succ n =>
    subst hL
    unfold ai_x at h ⊢
    rw [hat] at h ⊢
    simp only [ai_mk_mk] at h
    exact h
theorem fO_if {cd : ClassFile.Cond} {off : Int} {x : Int32} {o1 o2 : Option β} (t : Nat) (hat : ai_at r pc = some (.ifCond cd off, a, b, bm)) (ht : (pc : Int) + off = (t : Int)) (h : ob (bif ai_c cd x 0 then o1 else o2) K) (h1 : ob o1 K → fT X d w r t (ai_mk bm L) st m Q) (h2 : ob o2 K → fT X d w r (pc + 3) (ai_mk bm L) st m Q) : fT X d w r pc L (.int x :: st) m Q := by
  refine fT_if (t := t) hat ht (fun hc => ?_) (fun hc => ?_)
  · rw [hc] at h; exact h1 h
  · rw [hc] at h; exact h2 h
theorem fO_ic {cd : ClassFile.Cond} {off : Int} {x y : Int32} {o1 o2 : Option β} (t : Nat) (hat : ai_at r pc = some (.if_icmp cd off, a, b, bm)) (ht : (pc : Int) + off = (t : Int)) (h : ob (bif ai_c cd x y then o1 else o2) K) (h1 : ob o1 K → fT X d w r t (ai_mk bm L) st m Q) (h2 : ob o2 K → fT X d w r (pc + 3) (ai_mk bm L) st m Q) : fT X d w r pc L (.int y :: .int x :: st) m Q := by
  refine fT_ic (t := t) hat ht (fun hc => ?_) (fun hc => ?_)
  · rw [hc] at h; exact h1 h
  · rw [hc] at h; exact h2 h
theorem fO_gi {x k : Nat} {fs : List Value} {z : Int32} {f : Int32 → Option β} (hat : ai_at r pc = some (.getfield x, a, b, bm)) (hk : fl_t[k]? = some (.inr (a, fs))) (hb : fs[b]? = some (.int z)) (h : ob (gfI m k b f) K) (h2 : ∀ v, ob (f v) K → fT X d w r (pc + 3) (ai_mk bm L) (.int v :: st) m Q) : fT X d w r pc L (.ref k :: st) m Q :=
  fT_gi hat hk hb (h2 _ h)
theorem fO_pi {x k : Nat} {fs : List Value} {z y : Int32} {f : fm → Option β} (hat : ai_at r pc = some (.putfield x, a, b, bm)) (hk : fl_t[k]? = some (.inr (a, fs))) (hb : fs[b]? = some (.int z)) (hty : ai_ft a b = some .int) (h : ob (pfI m k b y f) K) (h2 : ∀ m1, ob (f m1) K → fT X d w r (pc + 3) (ai_mk bm L) st m1 Q) : fT X d w r pc L (.int y :: .ref k :: st) m Q :=
  fT_pi hat hk hb hty rfl (h2 _ h)
theorem fO_pb {x k : Nat} {fs : List Value} {z y : Int32} {f : fm → Option β} (hat : ai_at r pc = some (.putfield x, a, b, bm)) (hk : fl_t[k]? = some (.inr (a, fs))) (hb : fs[b]? = some (.int z)) (hty : ai_ft a b = some .boolean) (h : ob (pfB m k b y f) K) (h2 : ∀ m1, ob (f m1) K → fT X d w r (pc + 3) (ai_mk bm L) st m1 Q) : fT X d w r pc L (.int y :: .ref k :: st) m Q :=
  fT_pi hat hk hb hty (ob_g h).1 (h2 _ (ob_g h).2)
theorem fO_ia {k n : Nat} {g : Nat → Int32} {j : Int32} {f : Int32 → Option β} (hat : ai_at r pc = some (.iaload, a, b, bm)) (hk : fl_t[k]? = some (.inl (0, n, .inl g))) (hkB : Nat.ble ai_B k = false) (h : ob (ldI m k n j f) K) (h2 : ∀ v, ob (f v) K → fT X d w r (pc + 1) (ai_mk bm L) (.int v :: st) m Q) : fT X d w r pc L (.int j :: .ref k :: st) m Q :=
  fT_ia hat hk hkB (ob_g h).1 (h2 _ (ob_g h).2)
theorem fO_ba {k n : Nat} {g : Nat → Int32} {j : Int32} {f : Int32 → Option β} (hat : ai_at r pc = some (.baload, a, b, bm)) (hk : fl_t[k]? = some (.inl (1, n, .inl g))) (h : ob (ldI m k n j f) K) (h2 : ∀ v, ob (f v) K → fT X d w r (pc + 1) (ai_mk bm L) (.int v :: st) m Q) : fT X d w r pc L (.int j :: .ref k :: st) m Q :=
  fT_ba hat hk (ob_g h).1 (h2 _ (ob_g h).2)
theorem fO_la {k n : Nat} {g : Nat → Int64} {j : Int32} {f : Int64 → Option β} (hat : ai_at r pc = some (.laload, a, b, bm)) (hk : fl_t[k]? = some (.inl (2, n, .inr (.inl g)))) (h : ob (ldL m k n j f) K) (h2 : ∀ v, ob (f v) K → fT X d w r (pc + 1) (ai_mk bm L) (.long v :: st) m Q) : fT X d w r pc L (.int j :: .ref k :: st) m Q :=
  fT_la hat hk (ob_g h).1 (h2 _ (ob_g h).2)
theorem fO_aa {k k0 : Nat} {j : Int32} {f : Nat → Option β} (hat : ai_at r pc = some (.aaload, a, b, bm)) (hk : isP k k0) (h : ob (ldA k0 j f) K) (h2 : ∀ c, isC c → ob (f c) K → fT X d w r (pc + 1) (ai_mk bm L) (.ref c :: st) m Q) : fT X d w r pc L (.int j :: .ref k :: st) m Q := by
  have hj := ai_inlt (ai_inI (ob_g h).1)
  exact fT_aa hat hk.1 (ob_g h).1 (if_pos hj) (h2 _ (hk.2.1 _ hj) (ob_g h).2)
theorem fO_sh {j : Int32} {f : Int32 → Option β} (hX : X[1]? = some (39, ai_sh)) (hat : ai_at r pc = some (.iaload, a, b, bm)) (h : ob (ldS j f) K) (h2 : ∀ v, ob (f v) K → fT X d w r (pc + 1) (ai_mk bm L) (.int v :: st) m Q) : fT X d w r pc L (.int j :: .ref (ai_B + 1) :: st) m Q :=
  fT_sh (k := ai_B + 1) hat rfl hX (ob_g h).1 (h2 _ (ob_g h).2)
theorem fO_xa {N : Nat} {xs : Nat → Int32} {j : Int32} {f : Int32 → Option β} (hX : X[0]? = some (N, xs)) (hat : ai_at r pc = some (.iaload, a, b, bm)) (h : ob (ldX N xs j f) K) (h2 : ∀ v, ob (f v) K → fT X d w r (pc + 1) (ai_mk bm L) (.int v :: st) m Q) : fT X d w r pc L (.int j :: .ref ai_B :: st) m Q :=
  fT_sh (k := ai_B) hat rfl (by rw [Nat.sub_self]; exact hX) (ob_g h).1 (h2 _ (ob_g h).2)
theorem fO_is {k n : Nat} {g : Nat → Int32} {j x : Int32} {f : fm → Option β} (hat : ai_at r pc = some (.iastore, a, b, bm)) (hk : fl_t[k]? = some (.inl (0, n, .inl g))) (h : ob (stI m k n j x f) K) (h2 : ∀ m1, ob (f m1) K → fT X d w r (pc + 1) (ai_mk bm L) st m1 Q) : fT X d w r pc L (.int x :: .int j :: .ref k :: st) m Q :=
  fT_is hat hk (ob_g h).1 (h2 _ (ob_g h).2)
theorem fO_bs {k n : Nat} {g : Nat → Int32} {j x : Int32} {f : fm → Option β} (hat : ai_at r pc = some (.bastore, a, b, bm)) (hk : fl_t[k]? = some (.inl (1, n, .inl g))) (h : ob (stB m k n j x f) K) (h2 : ∀ m1, ob (f m1) K → fT X d w r (pc + 1) (ai_mk bm L) st m1 Q) : fT X d w r pc L (.int x :: .int j :: .ref k :: st) m Q :=
  fT_bs hat hk (ob_g h).1 (h2 _ (ob_g h).2)
theorem fO_ls {k n : Nat} {g : Nat → Int64} {j : Int32} {x : Int64} {f : fm → Option β} (hat : ai_at r pc = some (.lastore, a, b, bm)) (hk : fl_t[k]? = some (.inl (2, n, .inr (.inl g)))) (h : ob (stL m k n j x f) K) (h2 : ∀ m1, ob (f m1) K → fT X d w r (pc + 1) (ai_mk bm L) st m1 Q) : fT X d w r pc L (.long x :: .int j :: .ref k :: st) m Q :=
  fT_ls hat hk (ob_g h).1 (h2 _ (ob_g h).2)
theorem fO_dv {x y : Int32} {f : Int32 → Option β} (hat : ai_at r pc = some (.idiv, a, b, bm)) (h : ob (dvI x y f) K) (h2 : ∀ v, ob (f v) K → fT X d w r (pc + 1) (ai_mk bm L) (.int v :: st) m Q) : fT X d w r pc L (.int y :: .int x :: st) m Q := by
  unfold dvI at h
  by_cases hy : y = 0
  · rw [if_pos hy] at h; exact h.elim
  · rw [if_neg hy] at h
    exact fT_s hat (by show (if y = 0 then none else _) = _; rw [if_neg hy]) (h2 _ h)
theorem fO_rm {x y : Int32} {f : Int32 → Option β} (hat : ai_at r pc = some (.irem, a, b, bm)) (h : ob (rmI x y f) K) (h2 : ∀ v, ob (f v) K → fT X d w r (pc + 1) (ai_mk bm L) (.int v :: st) m Q) : fT X d w r pc L (.int y :: .int x :: st) m Q := by
  unfold rmI at h
  by_cases hy : y = 0
  · rw [if_pos hy] at h; exact h.elim
  · rw [if_neg hy] at h
    exact fT_s hat (by show (if y = 0 then none else _) = _; rw [if_neg hy]) (h2 _ h)
theorem fO_al {k n : Nat} (hat : ai_at r pc = some (.arraylength, a, b, bm)) (hk : ai_len2 X (fl m) k = some (.int (nI n))) (h2 : fT X d w r (pc + 1) (ai_mk bm L) (.int (nI n) :: st) m Q) : fT X d w r pc L (.ref k :: st) m Q := by
  refine fT_m hat (dp := 1) (m' := m) ?_ h2
  show ai_ret3 (ai_len2 X (fl m) k) 1 st (fl m) = _
  rw [hk]
  rfl
theorem len_c {c : Nat} (hc : isC c) : ai_len2 X (fl m) (c + 1) = some (.int (nI 96)) := by
  unfold ai_len2
  rw [hc.2.2.2.2]
  simp only [fl_i hc.2.1]
  rfl
theorem len_5 : ai_len2 X (fl m) 5 = some (.int (nI 96)) := by
  unfold ai_len2
  rw [show Nat.ble ai_B 5 = false from rfl]
  have e : (fl m)[5]? = some (.inl (2, 96, .inr (.inl (m.2 5)))) := fl_l (k := 5) rfl
  simp only [e]
  rfl
theorem len_x {N : Nat} {xs : Nat → Int32} (hX : X[0]? = some (N, xs)) : ai_len2 X (fl m) ai_B = some (.int (nI N)) := by
  unfold ai_len2
  rw [show Nat.ble ai_B ai_B = true from rfl, Nat.sub_self, hX]
  rfl
theorem fO_rb {y : Int32} {o : Option β} (hat : ai_at r pc = some (.ireturn, a, b, bm)) (hty : r.2.2.2.2.1 = some .boolean) (h : ob (rtB y o) K) (hq : ob o K → Q (some (.int y)) m) : fT X d w r pc L [.int y] m Q := by
  refine fT_r hat (v := some (.int y)) ?_ (hq (ob_g h).2)
  rw [hty]
  have e : (decide (y = 0) || decide (y = 1)) = true := (ob_g h).1
  simp only [ai_ans, e]
def vl {α : Type} (x : α) (f : α → Option β) : Option β := f x
theorem fO_vl {x : Int32} {f : Int32 → Option β} (h : ob (vl x f) K) (h2 : ∀ y, ob (f y) K → fT X d w r pc L (.int y :: st) m Q) : fT X d w r pc L (.int x :: st) m Q := h2 _ h
theorem ob_s {c : β} (h : ob (some c) K) : K c := h
theorem ob_inl {S : Type} {s : S} {P : S → Prop} (h : ob (some (Sum.inl s : S ⊕ β)) (Sum.elim P K)) : P s := h
theorem ob_eqT {α : Type} [DecidableEq α] {x : α} {o1 o2 : Option β} (h : ob (bif decide (x = x) then o1 else o2) K) : ob o1 K := by
  rw [decide_eq_true rfl] at h; exact h
theorem ob_eqF {x y : Int32} {o1 o2 : Option β} (e : ¬ x = y) (h : ob (bif decide (x = y) then o1 else o2) K) : ob o2 K := by
  rw [decide_eq_false e] at h; exact h
theorem nt {x : Int32} {k : Nat} (hk : k < 2 ^ 31) (h : ¬ x = nI k) : x.toInt ≠ (k : Int) := fun e => h (Int32.toInt_inj.mp (by rw [e, nI_toInt hk]))
theorem fO_td {df lo hi : Int} {offs : Array Int} {x : Int32} (t : Nat) (hat : ai_at r pc = some (.tableswitch df lo hi offs, a, b, bm)) (ht : (pc : Int) + df = (t : Int)) (hx : x.toInt < lo ∨ hi < x.toInt) (h : fT X d w r t (ai_mk bm L) st m Q) : fT X d w r pc L (.int x :: st) m Q := by
  refine fT_s hat (pc' := t) (L' := ai_mk bm L) (st' := st) ?_ h
  show (if x.toInt < lo ∨ hi < x.toInt then ai_to pc df (ai_mk bm L) st else _) = _
  rw [if_pos hx]
  unfold ai_to
  rw [ht]
theorem fO_ld {df : Int} {ps : Array (Int × Int)} {x : Int32} (t : Nat) (hat : ai_at r pc = some (.lookupswitch df ps, a, b, bm)) (ht : (pc : Int) + df = (t : Int)) (hz : (ps.toList.zip (ps.toList.drop 1)).all (fun (a, next) => a.1 < next.1) = true) (hx : Op.lookupswitch.offset ps.toList df x.toInt = df) (h : fT X d w r t (ai_mk bm L) st m Q) : fT X d w r pc L (.int x :: st) m Q := by
  refine fT_s hat (pc' := t) (L' := ai_mk bm L) (st' := st) ?_ h
  show (if (ps.toList.zip (ps.toList.drop 1)).all (fun (a, next) => a.1 < next.1) = true then ai_to pc (Op.lookupswitch.offset ps.toList df x.toInt) (ai_mk bm L) st else none) = _
  rw [if_pos hz, hx]
  unfold ai_to
  rw [ht]
theorem all_c {α : Type} {p : α → Bool} {x : α} {l : List α} (h1 : p x = true) (h2 : l.all p = true) : (x :: l).all p = true := by
  show (p x && l.all p) = true
  rw [h1, h2]; rfl
theorem fO_qv2 {α : Type} (emb : α → Value) {x k ci : Nat} {r' : ai_R} {fs As rest : List Value} {g : Option (α × fm)} {f : α → fm → Option β} (hat : ai_at r pc = some (.invokevirtual x, a, b, bm)) (hr : ai_ms[b]? = some r') (hst : (st.take r'.2.2.2.2.2.1).reverse = .ref k :: As) (hre : st.drop r'.2.2.2.2.2.1 = rest) (hk : fl_t[k]? = some (.inr (ci, fs))) (hc : (Nat.beq ci r'.1 && Nat.beq (As.length + 1) r'.2.2.2.2.2.1) = true) (g1 : 0 < d) (g2 : 19 + r'.2.2.2.1 ≤ w) (g3 : ai_cat rest ≤ 8) (g4 : ai_cat (.ref k :: As) ≤ r'.2.2.2.1) (g5 : (ai_mk bm L).all (ai_kl 72) = true) (g6 : rest.all (ai_k 72) = true) (h1 : ∀ Qc, ob g (fun z => Qc (some (emb z.1)) z.2) → fT X (d - 1) (w - (19 + r'.2.2.2.1)) r' 0 (ai_en r'.2.2.2.1 (.ref k :: As)) [] m Qc) (h : ob (cl2 g f) K) (h2 : ∀ v m1, ob (f v m1) K → fT X d w r (pc + 3) (ai_mk bm L) (emb v :: rest) m1 Q) : fT X d w r pc L st m Q := by
  refine fT_qv hat hr hst hre hk hc g1 g2 g3 g4 g5 g6 (Qc := fun v m1 => ∃ z, v = some (emb z) ∧ ob (f z m1) K) (h1 _ ?_) (fun v m1 hq => ?_)
  · cases g with
    | none => exact h.elim
    | some z => exact ⟨z.1, rfl, h⟩
  · obtain ⟨z, rfl, hz⟩ := hq
    exact h2 z m1 hz
theorem fO_qv1 {x k ci : Nat} {r' : ai_R} {fs As rest : List Value} {g : Option fm} {f : fm → Option β} (hat : ai_at r pc = some (.invokevirtual x, a, b, bm)) (hr : ai_ms[b]? = some r') (hst : (st.take r'.2.2.2.2.2.1).reverse = .ref k :: As) (hre : st.drop r'.2.2.2.2.2.1 = rest) (hk : fl_t[k]? = some (.inr (ci, fs))) (hc : (Nat.beq ci r'.1 && Nat.beq (As.length + 1) r'.2.2.2.2.2.1) = true) (g1 : 0 < d) (g2 : 19 + r'.2.2.2.1 ≤ w) (g3 : ai_cat rest ≤ 8) (g4 : ai_cat (.ref k :: As) ≤ r'.2.2.2.1) (g5 : (ai_mk bm L).all (ai_kl 72) = true) (g6 : rest.all (ai_k 72) = true) (h1 : ∀ Qc, ob g (fun z => Qc none z) → fT X (d - 1) (w - (19 + r'.2.2.2.1)) r' 0 (ai_en r'.2.2.2.1 (.ref k :: As)) [] m Qc) (h : ob (cl1 g f) K) (h2 : ∀ m1, ob (f m1) K → fT X d w r (pc + 3) (ai_mk bm L) rest m1 Q) : fT X d w r pc L st m Q := by
  refine fT_qv hat hr hst hre hk hc g1 g2 g3 g4 g5 g6 (Qc := fun v m1 => v = none ∧ ob (f m1) K) (h1 _ ?_) (fun v m1 hq => ?_)
  · cases g with
    | none => exact h.elim
    | some z => exact ⟨rfl, h⟩
  · obtain ⟨rfl, hz⟩ := hq
    exact h2 m1 hz
theorem fO_qs2 {α : Type} (emb : α → Value) {x : Nat} {r' : ai_R} {As rest : List Value} {g : Option (α × fm)} {f : α → fm → Option β} (hat : ai_at r pc = some (.invokestatic x, a, b, bm)) (ha : Nat.beq a 8 = false) (hr : ai_ms[b]? = some r') (hst : (st.take r'.2.2.2.2.2.1).reverse = As) (hre : st.drop r'.2.2.2.2.2.1 = rest) (hc : Nat.beq (st.take r'.2.2.2.2.2.1).length r'.2.2.2.2.2.1 = true) (g1 : 0 < d) (g2 : 19 + r'.2.2.2.1 ≤ w) (g3 : ai_cat rest ≤ 8) (g4 : ai_cat As ≤ r'.2.2.2.1) (g5 : (ai_mk bm L).all (ai_kl 72) = true) (g6 : rest.all (ai_k 72) = true) (h1 : ∀ Qc, ob g (fun z => Qc (some (emb z.1)) z.2) → fT X (d - 1) (w - (19 + r'.2.2.2.1)) r' 0 (ai_en r'.2.2.2.1 As) [] m Qc) (h : ob (cl2 g f) K) (h2 : ∀ v m1, ob (f v m1) K → fT X d w r (pc + 3) (ai_mk bm L) (emb v :: rest) m1 Q) : fT X d w r pc L st m Q := by
  refine fT_qs hat ha hr hst hre hc g1 g2 g3 g4 g5 g6 (Qc := fun v m1 => ∃ z, v = some (emb z) ∧ ob (f z m1) K) (h1 _ ?_) (fun v m1 hq => ?_)
  · cases g with
    | none => exact h.elim
    | some z => exact ⟨z.1, rfl, h⟩
  · obtain ⟨z, rfl, hz⟩ := hq
    exact h2 z m1 hz
theorem cp_set1 {k1 n1 : Nat} {g : Nat → Int32} {k0 sp dp n : Nat} (h0 : fl_t[k1]? = some (.inl (0, n1, .inl g))) : (fl m).set k1 (.inl (0, n1, .inl (va_cpy (m.1 k0) (m.1 k1) sp dp n))) = fl (cpy1 m k0 sp k1 dp n) := by
  refine fl_set h0 ?_ (fun j hj z => ?_)
  · show (Sum.inl (0, n1, Sum.inl ((cpy1 m k0 sp k1 dp n).1 k1)) : va_E) = _
    congr 4
    funext b
    show (if k1 = k1 ∧ dp ≤ b ∧ b < dp + n then m.1 k0 (sp + (b - dp)) else m.1 k1 b) = (if dp ≤ b ∧ b < dp + n then m.1 k0 (sp + (b - dp)) else m.1 k1 b)
    by_cases hb : dp ≤ b ∧ b < dp + n
    · rw [if_pos ⟨rfl, hb⟩, if_pos hb]
    · rw [if_neg (fun z => hb z.2), if_neg hb]
  · have hf : (cpy1 m k0 sp k1 dp n).1 j = m.1 j := by
      funext b
      show (if j = k1 ∧ dp ≤ b ∧ b < dp + n then m.1 k0 (sp + (b - dp)) else m.1 j b) = _
      rw [if_neg (fun z => hj z.1)]
    unfold fl_e
    rw [hf]
    rfl
theorem cp_set2 {k1 n1 : Nat} {g : Nat → Int64} {k0 sp dp n : Nat} (h0 : fl_t[k1]? = some (.inl (2, n1, .inr (.inl g)))) : (fl m).set k1 (.inl (2, n1, .inr (.inl (va_cpy (m.2 k0) (m.2 k1) sp dp n)))) = fl (cpy2 m k0 sp k1 dp n) := by
  refine fl_set h0 ?_ (fun j hj z => ?_)
  · show (Sum.inl (2, n1, Sum.inr (Sum.inl ((cpy2 m k0 sp k1 dp n).2 k1))) : va_E) = _
    congr 5
    funext b
    show (if k1 = k1 ∧ dp ≤ b ∧ b < dp + n then m.2 k0 (sp + (b - dp)) else m.2 k1 b) = (if dp ≤ b ∧ b < dp + n then m.2 k0 (sp + (b - dp)) else m.2 k1 b)
    by_cases hb : dp ≤ b ∧ b < dp + n
    · rw [if_pos ⟨rfl, hb⟩, if_pos hb]
    · rw [if_neg (fun z => hb z.2), if_neg hb]
  · have hf : (cpy2 m k0 sp k1 dp n).2 j = m.2 j := by
      funext b
      show (if j = k1 ∧ dp ≤ b ∧ b < dp + n then m.2 k0 (sp + (b - dp)) else m.2 j b) = _
      rw [if_neg (fun z => hj z.1)]
    unfold fl_e
    rw [hf]
    rfl
theorem fO_cpI {x k0 n0 k1 n1 : Nat} {g0 g1 : Nat → Int32} {sp dp n : Int32} {f : fm → Option β} (hat : ai_at r pc = some (.invokestatic x, 8, b, bm)) (h0 : fl_t[k0]? = some (.inl (0, n0, .inl g0))) (h1 : fl_t[k1]? = some (.inl (0, n1, .inl g1))) (hc : ai_cat st ≤ 8) (hd : 0 < d) (hw : 32 ≤ w) (h : ob (cpI m k0 n0 sp k1 n1 dp n f) K) (h2 : ∀ m1, ob (f m1) K → fT X d w r (pc + 3) (ai_mk bm L) st m1 Q) : fT X d w r pc L (.int n :: .int dp :: .ref k1 :: .int sp :: .ref k0 :: st) m Q := by
  refine fT_z hat (m' := cpy1 m k0 sp.toNatClampNeg k1 dp.toNatClampNeg n.toNatClampNeg) ?_ hd hw (h2 _ (ob_g h).2)
  obtain ⟨e1, e2⟩ := Bool.and_eq_true_iff.mp (ob_g h).1
  obtain ⟨e1, e5⟩ := Bool.and_eq_true_iff.mp e1
  obtain ⟨e3, e4⟩ := Bool.and_eq_true_iff.mp e1
  simp only [ai_z, fl_i h0, fl_i h1, Nat.beq_refl, e2, e3, e4, e5, Nat.ble_eq_true_of_le hc, Bool.and_self]
  rw [cp_set1 h1]
theorem fO_cpL {x k0 n0 k1 n1 : Nat} {g0 g1 : Nat → Int64} {sp dp n : Int32} {f : fm → Option β} (hat : ai_at r pc = some (.invokestatic x, 8, b, bm)) (h0 : fl_t[k0]? = some (.inl (2, n0, .inr (.inl g0)))) (h1 : fl_t[k1]? = some (.inl (2, n1, .inr (.inl g1)))) (hc : ai_cat st ≤ 8) (hd : 0 < d) (hw : 32 ≤ w) (h : ob (cpL m k0 n0 sp k1 n1 dp n f) K) (h2 : ∀ m1, ob (f m1) K → fT X d w r (pc + 3) (ai_mk bm L) st m1 Q) : fT X d w r pc L (.int n :: .int dp :: .ref k1 :: .int sp :: .ref k0 :: st) m Q := by
  refine fT_z hat (m' := cpy2 m k0 sp.toNatClampNeg k1 dp.toNatClampNeg n.toNatClampNeg) ?_ hd hw (h2 _ (ob_g h).2)
  obtain ⟨e1, e2⟩ := Bool.and_eq_true_iff.mp (ob_g h).1
  obtain ⟨e1, e5⟩ := Bool.and_eq_true_iff.mp e1
  obtain ⟨e3, e4⟩ := Bool.and_eq_true_iff.mp e1
  simp only [ai_z, fl_l h0, fl_l h1, Nat.beq_refl, e2, e3, e4, e5, Nat.ble_eq_true_of_le hc, Bool.and_self]
  rw [cp_set2 h1]
theorem t85 {x : Int32} : fT X d w ai_r85 0 [some (.ref 0), some (.int x)] [] m (fun v m1 => (ai_c .ne x 0 = true ∧ v = some (.ref 2) ∧ m1 = m) ∨ (ai_c .ne x 0 = false ∧ v = some (.ref 1) ∧ m1 = m)) := by
  refine fT_ss 1 rfl ?_
  refine fT_if (t := 11) rfl rfl (fun h => ?_) (fun h => ?_)
  · refine fT_ss 1 rfl ?_
    refine fT_gr rfl rfl rfl ?_
    exact fT_r rfl rfl (Or.inl ⟨h, rfl, rfl⟩)
  · refine fT_ss 1 rfl ?_
    refine fT_gr rfl rfl rfl ?_
    refine fT_ss 1 rfl ?_
    exact fT_r rfl rfl (Or.inr ⟨h, rfl, rfl⟩)
theorem fO_pl {x : Int32} {x0 : Nat} {f : Nat → Option β} (hat : ai_at r pc = some (.invokevirtual x0, a, 85, bm)) (g1 : 0 < d) (g2 : 21 ≤ w) (g3 : ai_cat st ≤ 8) (g5 : (ai_mk bm L).all (ai_kl 72) = true) (g6 : st.all (ai_k 72) = true) (h : ob (plk x f) K) (h2 : ∀ p q, isP p q → ob (f q) K → fT X d w r (pc + 3) (ai_mk bm L) (.ref p :: st) m Q) : fT X d w r pc L (.int x :: .ref 0 :: st) m Q := by
  refine fT_qv (r' := ai_r85) (As := [.int x]) (rest := st) hat rfl rfl rfl rfl rfl g1 g2 g3 (Nat.le_of_ble_eq_true rfl) g5 g6 t85 (fun v m1 hq => ?_)
  unfold plk at h
  rcases hq with ⟨hc, rfl, rfl⟩ | ⟨hc, rfl, rfl⟩
  · rw [hc] at h
    exact h2 2 22 isP_2 h
  · rw [hc] at h
    exact h2 1 20 isP_1 h
end OB
end
