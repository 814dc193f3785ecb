/-! ===== names and tables (part A of the skeleton; names as the command prints them) ===== -/
/-- a private method of a class that the tables say can be made, by its rows of tables_1 -/
def lw_okq (q : MethodName × Nat) : Prop := (q.1.cls ≠ "java/lang/invoke/MethodHandle" ∧ q.1.cls ≠ "java/lang/invoke/VarHandle") ∧ Cond.instantiable q.1.cls q.2 ∈ tables_1 ∧ Cond.privateMethod q.1 ∈ tables_1 ∧ Cond.instanceMethod q.1 ∈ tables_1
theorem lw_p0 : lw_okq (⟨"GrudgeYard$Reader", "addLetter", "(I)Z"⟩, 6) := ⟨⟨by decide +kernel, by decide +kernel⟩, List.mem_of_getElem? (i := 26) (by decide +kernel), List.mem_of_getElem? (i := 329) (by decide +kernel), List.mem_of_getElem? (i := 330) (by decide +kernel)⟩
theorem lw_p1 : lw_okq (⟨"GrudgeYard$Reader", "readInto", "(LGrudgeYard$Yard;)I"⟩, 6) := ⟨⟨by decide +kernel, by decide +kernel⟩, List.mem_of_getElem? (i := 26) (by decide +kernel), List.mem_of_getElem? (i := 338) (by decide +kernel), List.mem_of_getElem? (i := 339) (by decide +kernel)⟩
theorem lw_p2 : lw_okq (⟨"GrudgeYard$Yard", "clear", "()V"⟩, 10) := ⟨⟨by decide +kernel, by decide +kernel⟩, List.mem_of_getElem? (i := 235) (by decide +kernel), List.mem_of_getElem? (i := 342) (by decide +kernel), List.mem_of_getElem? (i := 343) (by decide +kernel)⟩
theorem lw_p3 : lw_okq (⟨"GrudgeYard$Reader", "failed", "()Z"⟩, 6) := ⟨⟨by decide +kernel, by decide +kernel⟩, List.mem_of_getElem? (i := 26) (by decide +kernel), List.mem_of_getElem? (i := 346) (by decide +kernel), List.mem_of_getElem? (i := 347) (by decide +kernel)⟩
theorem lw_p4 : lw_okq (⟨"GrudgeYard$Reader", "atEnd", "()Z"⟩, 6) := ⟨⟨by decide +kernel, by decide +kernel⟩, List.mem_of_getElem? (i := 26) (by decide +kernel), List.mem_of_getElem? (i := 350) (by decide +kernel), List.mem_of_getElem? (i := 351) (by decide +kernel)⟩
theorem lw_p5 : lw_okq (⟨"GrudgeYard$Reader", "skipBlanks", "()V"⟩, 6) := ⟨⟨by decide +kernel, by decide +kernel⟩, List.mem_of_getElem? (i := 26) (by decide +kernel), List.mem_of_getElem? (i := 354) (by decide +kernel), List.mem_of_getElem? (i := 355) (by decide +kernel)⟩
theorem lw_p6 : lw_okq (⟨"GrudgeYard$Reader", "letter", "()I"⟩, 6) := ⟨⟨by decide +kernel, by decide +kernel⟩, List.mem_of_getElem? (i := 26) (by decide +kernel), List.mem_of_getElem? (i := 358) (by decide +kernel), List.mem_of_getElem? (i := 359) (by decide +kernel)⟩
theorem lw_p7 : lw_okq (⟨"GrudgeYard$Reader", "readClause", "(LGrudgeYard$Yard;)V"⟩, 6) := ⟨⟨by decide +kernel, by decide +kernel⟩, List.mem_of_getElem? (i := 26) (by decide +kernel), List.mem_of_getElem? (i := 362) (by decide +kernel), List.mem_of_getElem? (i := 363) (by decide +kernel)⟩
theorem lw_p8 : lw_okq (⟨"GrudgeYard$Reader", "fail", "(II)V"⟩, 6) := ⟨⟨by decide +kernel, by decide +kernel⟩, List.mem_of_getElem? (i := 26) (by decide +kernel), List.mem_of_getElem? (i := 369) (by decide +kernel), List.mem_of_getElem? (i := 370) (by decide +kernel)⟩
theorem lw_p9 : lw_okq (⟨"GrudgeYard$Yard", "isFullOf", "(I)Z"⟩, 10) := ⟨⟨by decide +kernel, by decide +kernel⟩, List.mem_of_getElem? (i := 235) (by decide +kernel), List.mem_of_getElem? (i := 373) (by decide +kernel), List.mem_of_getElem? (i := 374) (by decide +kernel)⟩
theorem lw_p10 : lw_okq (⟨"GrudgeYard$Reader", "readRoads", "(LGrudgeYard$Yard;)V"⟩, 6) := ⟨⟨by decide +kernel, by decide +kernel⟩, List.mem_of_getElem? (i := 26) (by decide +kernel), List.mem_of_getElem? (i := 383) (by decide +kernel), List.mem_of_getElem? (i := 384) (by decide +kernel)⟩
theorem lw_p11 : lw_okq (⟨"GrudgeYard$Reader", "goesOn", "(I)Z"⟩, 6) := ⟨⟨by decide +kernel, by decide +kernel⟩, List.mem_of_getElem? (i := 26) (by decide +kernel), List.mem_of_getElem? (i := 387) (by decide +kernel), List.mem_of_getElem? (i := 388) (by decide +kernel)⟩
theorem lw_p12 : lw_okq (⟨"GrudgeYard$Reader", "takes", "(I)Z"⟩, 6) := ⟨⟨by decide +kernel, by decide +kernel⟩, List.mem_of_getElem? (i := 26) (by decide +kernel), List.mem_of_getElem? (i := 391) (by decide +kernel), List.mem_of_getElem? (i := 392) (by decide +kernel)⟩
theorem lw_p13 : lw_okq (⟨"GrudgeYard$Reader", "readNumber", "(II)I"⟩, 6) := ⟨⟨by decide +kernel, by decide +kernel⟩, List.mem_of_getElem? (i := 26) (by decide +kernel), List.mem_of_getElem? (i := 395) (by decide +kernel), List.mem_of_getElem? (i := 396) (by decide +kernel)⟩
theorem lw_p14 : lw_okq (⟨"GrudgeYard$Yard", "addRoad", "(I)V"⟩, 10) := ⟨⟨by decide +kernel, by decide +kernel⟩, List.mem_of_getElem? (i := 235) (by decide +kernel), List.mem_of_getElem? (i := 402) (by decide +kernel), List.mem_of_getElem? (i := 403) (by decide +kernel)⟩
theorem lw_p15 : lw_okq (⟨"GrudgeYard$Reader", "readWagon", "(LGrudgeYard$Yard;)V"⟩, 6) := ⟨⟨by decide +kernel, by decide +kernel⟩, List.mem_of_getElem? (i := 26) (by decide +kernel), List.mem_of_getElem? (i := 406) (by decide +kernel), List.mem_of_getElem? (i := 407) (by decide +kernel)⟩
def lw_privs_1 : List (MethodName × Nat) := [(⟨"GrudgeYard$Reader", "addLetter", "(I)Z"⟩, 6), (⟨"GrudgeYard$Reader", "readInto", "(LGrudgeYard$Yard;)I"⟩, 6), (⟨"GrudgeYard$Yard", "clear", "()V"⟩, 10), (⟨"GrudgeYard$Reader", "failed", "()Z"⟩, 6), (⟨"GrudgeYard$Reader", "atEnd", "()Z"⟩, 6), (⟨"GrudgeYard$Reader", "skipBlanks", "()V"⟩, 6), (⟨"GrudgeYard$Reader", "letter", "()I"⟩, 6), (⟨"GrudgeYard$Reader", "readClause", "(LGrudgeYard$Yard;)V"⟩, 6), (⟨"GrudgeYard$Reader", "fail", "(II)V"⟩, 6), (⟨"GrudgeYard$Yard", "isFullOf", "(I)Z"⟩, 10), (⟨"GrudgeYard$Reader", "readRoads", "(LGrudgeYard$Yard;)V"⟩, 6), (⟨"GrudgeYard$Reader", "goesOn", "(I)Z"⟩, 6), (⟨"GrudgeYard$Reader", "takes", "(I)Z"⟩, 6), (⟨"GrudgeYard$Reader", "readNumber", "(II)I"⟩, 6), (⟨"GrudgeYard$Yard", "addRoad", "(I)V"⟩, 10), (⟨"GrudgeYard$Reader", "readWagon", "(LGrudgeYard$Yard;)V"⟩, 6)]
theorem lw_r1 : ∀ q ∈ lw_privs_1, lw_okq q := List.forall_mem_cons.mpr ⟨lw_p0, List.forall_mem_cons.mpr ⟨lw_p1, List.forall_mem_cons.mpr ⟨lw_p2, List.forall_mem_cons.mpr ⟨lw_p3, List.forall_mem_cons.mpr ⟨lw_p4, List.forall_mem_cons.mpr ⟨lw_p5, List.forall_mem_cons.mpr ⟨lw_p6, List.forall_mem_cons.mpr ⟨lw_p7, List.forall_mem_cons.mpr ⟨lw_p8, List.forall_mem_cons.mpr ⟨lw_p9, List.forall_mem_cons.mpr ⟨lw_p10, List.forall_mem_cons.mpr ⟨lw_p11, List.forall_mem_cons.mpr ⟨lw_p12, List.forall_mem_cons.mpr ⟨lw_p13, List.forall_mem_cons.mpr ⟨lw_p14, List.forall_mem_cons.mpr ⟨lw_p15, fun _ h => absurd h List.not_mem_nil⟩⟩⟩⟩⟩⟩⟩⟩⟩⟩⟩⟩⟩⟩⟩⟩
theorem lw_p16 : lw_okq (⟨"GrudgeYard$Yard", "addWagon", "(III)V"⟩, 10) := ⟨⟨by decide +kernel, by decide +kernel⟩, List.mem_of_getElem? (i := 235) (by decide +kernel), List.mem_of_getElem? (i := 410) (by decide +kernel), List.mem_of_getElem? (i := 411) (by decide +kernel)⟩
theorem lw_p17 : lw_okq (⟨"GrudgeYard$Reader", "readGrudge", "(LGrudgeYard$Yard;)V"⟩, 6) := ⟨⟨by decide +kernel, by decide +kernel⟩, List.mem_of_getElem? (i := 26) (by decide +kernel), List.mem_of_getElem? (i := 414) (by decide +kernel), List.mem_of_getElem? (i := 415) (by decide +kernel)⟩
theorem lw_p18 : lw_okq (⟨"GrudgeYard$Yard", "addGrudge", "(II)Z"⟩, 10) := ⟨⟨by decide +kernel, by decide +kernel⟩, List.mem_of_getElem? (i := 235) (by decide +kernel), List.mem_of_getElem? (i := 418) (by decide +kernel), List.mem_of_getElem? (i := 419) (by decide +kernel)⟩
theorem lw_p19 : lw_okq (⟨"GrudgeYard$Reader", "readTrain", "(LGrudgeYard$Yard;)V"⟩, 6) := ⟨⟨by decide +kernel, by decide +kernel⟩, List.mem_of_getElem? (i := 26) (by decide +kernel), List.mem_of_getElem? (i := 425) (by decide +kernel), List.mem_of_getElem? (i := 426) (by decide +kernel)⟩
theorem lw_p20 : lw_okq (⟨"GrudgeYard$Yard", "addToTrain", "(I)Z"⟩, 10) := ⟨⟨by decide +kernel, by decide +kernel⟩, List.mem_of_getElem? (i := 235) (by decide +kernel), List.mem_of_getElem? (i := 429) (by decide +kernel), List.mem_of_getElem? (i := 430) (by decide +kernel)⟩
theorem lw_p21 : lw_okq (⟨"GrudgeYard$Yard", "hasWagon", "(I)Z"⟩, 10) := ⟨⟨by decide +kernel, by decide +kernel⟩, List.mem_of_getElem? (i := 235) (by decide +kernel), List.mem_of_getElem? (i := 433) (by decide +kernel), List.mem_of_getElem? (i := 434) (by decide +kernel)⟩
theorem lw_p22 : lw_okq (⟨"GrudgeYard$Stand", "begin", "(I)V"⟩, 6) := ⟨⟨by decide +kernel, by decide +kernel⟩, List.mem_of_getElem? (i := 54) (by decide +kernel), List.mem_of_getElem? (i := 437) (by decide +kernel), List.mem_of_getElem? (i := 438) (by decide +kernel)⟩
theorem lw_p23 : lw_okq (⟨"GrudgeYard$Stand", "push", "(II)V"⟩, 6) := ⟨⟨by decide +kernel, by decide +kernel⟩, List.mem_of_getElem? (i := 54) (by decide +kernel), List.mem_of_getElem? (i := 444) (by decide +kernel), List.mem_of_getElem? (i := 445) (by decide +kernel)⟩
theorem lw_p24 : lw_okq (⟨"GrudgeYard$Stand", "countOf", "(I)I"⟩, 6) := ⟨⟨by decide +kernel, by decide +kernel⟩, List.mem_of_getElem? (i := 54) (by decide +kernel), List.mem_of_getElem? (i := 448) (by decide +kernel), List.mem_of_getElem? (i := 449) (by decide +kernel)⟩
theorem lw_p25 : lw_okq (⟨"GrudgeYard$Past", "forget", "()V"⟩, 3) := ⟨⟨by decide +kernel, by decide +kernel⟩, List.mem_of_getElem? (i := 82) (by decide +kernel), List.mem_of_getElem? (i := 455) (by decide +kernel), List.mem_of_getElem? (i := 456) (by decide +kernel)⟩
theorem lw_p26 : lw_okq (⟨"GrudgeYard", "tearAll", "()V"⟩, 14) := ⟨⟨by decide +kernel, by decide +kernel⟩, List.mem_of_getElem? (i := 18) (by decide +kernel), List.mem_of_getElem? (i := 459) (by decide +kernel), List.mem_of_getElem? (i := 460) (by decide +kernel)⟩
theorem lw_p27 : lw_okq (⟨"GrudgeYard$Couplings", "forget", "()V"⟩, 3) := ⟨⟨by decide +kernel, by decide +kernel⟩, List.mem_of_getElem? (i := 123) (by decide +kernel), List.mem_of_getElem? (i := 463) (by decide +kernel), List.mem_of_getElem? (i := 464) (by decide +kernel)⟩
theorem lw_p28 : lw_okq (⟨"GrudgeYard$Yard", "kindOf", "(I)I"⟩, 10) := ⟨⟨by decide +kernel, by decide +kernel⟩, List.mem_of_getElem? (i := 235) (by decide +kernel), List.mem_of_getElem? (i := 482) (by decide +kernel), List.mem_of_getElem? (i := 483) (by decide +kernel)⟩
theorem lw_p29 : lw_okq (⟨"GrudgeYard$Stand", "roadOf", "(I)I"⟩, 6) := ⟨⟨by decide +kernel, by decide +kernel⟩, List.mem_of_getElem? (i := 54) (by decide +kernel), List.mem_of_getElem? (i := 486) (by decide +kernel), List.mem_of_getElem? (i := 487) (by decide +kernel)⟩
theorem lw_p30 : lw_okq (⟨"GrudgeYard$Stand", "lineOf", "(I)I"⟩, 6) := ⟨⟨by decide +kernel, by decide +kernel⟩, List.mem_of_getElem? (i := 54) (by decide +kernel), List.mem_of_getElem? (i := 490) (by decide +kernel), List.mem_of_getElem? (i := 491) (by decide +kernel)⟩
theorem lw_p31 : lw_okq (⟨"GrudgeYard$Stand", "wagonAt", "(II)I"⟩, 6) := ⟨⟨by decide +kernel, by decide +kernel⟩, List.mem_of_getElem? (i := 54) (by decide +kernel), List.mem_of_getElem? (i := 494) (by decide +kernel), List.mem_of_getElem? (i := 495) (by decide +kernel)⟩
def lw_privs_2 : List (MethodName × Nat) := [(⟨"GrudgeYard$Yard", "addWagon", "(III)V"⟩, 10), (⟨"GrudgeYard$Reader", "readGrudge", "(LGrudgeYard$Yard;)V"⟩, 6), (⟨"GrudgeYard$Yard", "addGrudge", "(II)Z"⟩, 10), (⟨"GrudgeYard$Reader", "readTrain", "(LGrudgeYard$Yard;)V"⟩, 6), (⟨"GrudgeYard$Yard", "addToTrain", "(I)Z"⟩, 10), (⟨"GrudgeYard$Yard", "hasWagon", "(I)Z"⟩, 10), (⟨"GrudgeYard$Stand", "begin", "(I)V"⟩, 6), (⟨"GrudgeYard$Stand", "push", "(II)V"⟩, 6), (⟨"GrudgeYard$Stand", "countOf", "(I)I"⟩, 6), (⟨"GrudgeYard$Past", "forget", "()V"⟩, 3), (⟨"GrudgeYard", "tearAll", "()V"⟩, 14), (⟨"GrudgeYard$Couplings", "forget", "()V"⟩, 3), (⟨"GrudgeYard$Yard", "kindOf", "(I)I"⟩, 10), (⟨"GrudgeYard$Stand", "roadOf", "(I)I"⟩, 6), (⟨"GrudgeYard$Stand", "lineOf", "(I)I"⟩, 6), (⟨"GrudgeYard$Stand", "wagonAt", "(II)I"⟩, 6)]
theorem lw_r2 : ∀ q ∈ lw_privs_2, lw_okq q := List.forall_mem_cons.mpr ⟨lw_p16, List.forall_mem_cons.mpr ⟨lw_p17, List.forall_mem_cons.mpr ⟨lw_p18, List.forall_mem_cons.mpr ⟨lw_p19, List.forall_mem_cons.mpr ⟨lw_p20, List.forall_mem_cons.mpr ⟨lw_p21, List.forall_mem_cons.mpr ⟨lw_p22, List.forall_mem_cons.mpr ⟨lw_p23, List.forall_mem_cons.mpr ⟨lw_p24, List.forall_mem_cons.mpr ⟨lw_p25, List.forall_mem_cons.mpr ⟨lw_p26, List.forall_mem_cons.mpr ⟨lw_p27, List.forall_mem_cons.mpr ⟨lw_p28, List.forall_mem_cons.mpr ⟨lw_p29, List.forall_mem_cons.mpr ⟨lw_p30, List.forall_mem_cons.mpr ⟨lw_p31, fun _ h => absurd h List.not_mem_nil⟩⟩⟩⟩⟩⟩⟩⟩⟩⟩⟩⟩⟩⟩⟩⟩
theorem lw_p32 : lw_okq (⟨"GrudgeYard$Stand", "placeOf", "(I)I"⟩, 6) := ⟨⟨by decide +kernel, by decide +kernel⟩, List.mem_of_getElem? (i := 54) (by decide +kernel), List.mem_of_getElem? (i := 498) (by decide +kernel), List.mem_of_getElem? (i := 499) (by decide +kernel)⟩
theorem lw_p33 : lw_okq (⟨"GrudgeYard$Yard", "speedOf", "(I)I"⟩, 10) := ⟨⟨by decide +kernel, by decide +kernel⟩, List.mem_of_getElem? (i := 235) (by decide +kernel), List.mem_of_getElem? (i := 502) (by decide +kernel), List.mem_of_getElem? (i := 503) (by decide +kernel)⟩
theorem lw_p34 : lw_okq (⟨"GrudgeYard$Yard", "hasRoad", "(I)Z"⟩, 10) := ⟨⟨by decide +kernel, by decide +kernel⟩, List.mem_of_getElem? (i := 235) (by decide +kernel), List.mem_of_getElem? (i := 510) (by decide +kernel), List.mem_of_getElem? (i := 511) (by decide +kernel)⟩
theorem lw_p35 : lw_okq (⟨"GrudgeYard$Yard", "roomOf", "(I)I"⟩, 10) := ⟨⟨by decide +kernel, by decide +kernel⟩, List.mem_of_getElem? (i := 235) (by decide +kernel), List.mem_of_getElem? (i := 514) (by decide +kernel), List.mem_of_getElem? (i := 515) (by decide +kernel)⟩
theorem lw_p36 : lw_okq (⟨"GrudgeYard$Stand", "peaceOf", "(I)I"⟩, 6) := ⟨⟨by decide +kernel, by decide +kernel⟩, List.mem_of_getElem? (i := 54) (by decide +kernel), List.mem_of_getElem? (i := 519) (by decide +kernel), List.mem_of_getElem? (i := 520) (by decide +kernel)⟩
theorem lw_p37 : lw_okq (⟨"GrudgeYard$Stand", "fromHead", "(I)I"⟩, 6) := ⟨⟨by decide +kernel, by decide +kernel⟩, List.mem_of_getElem? (i := 54) (by decide +kernel), List.mem_of_getElem? (i := 527) (by decide +kernel), List.mem_of_getElem? (i := 528) (by decide +kernel)⟩
theorem lw_p38 : lw_okq (⟨"GrudgeYard$Yard", "kindsKick", "(II)Z"⟩, 10) := ⟨⟨by decide +kernel, by decide +kernel⟩, List.mem_of_getElem? (i := 235) (by decide +kernel), List.mem_of_getElem? (i := 539) (by decide +kernel), List.mem_of_getElem? (i := 540) (by decide +kernel)⟩
theorem lw_p39 : lw_okq (⟨"GrudgeYard$Past", "remember", "(LGrudgeYard$Stand;)V"⟩, 3) := ⟨⟨by decide +kernel, by decide +kernel⟩, List.mem_of_getElem? (i := 82) (by decide +kernel), List.mem_of_getElem? (i := 551) (by decide +kernel), List.mem_of_getElem? (i := 552) (by decide +kernel)⟩
theorem lw_p40 : lw_okq (⟨"GrudgeYard$Stand", "become", "(LGrudgeYard$Stand;)V"⟩, 6) := ⟨⟨by decide +kernel, by decide +kernel⟩, List.mem_of_getElem? (i := 54) (by decide +kernel), List.mem_of_getElem? (i := 555) (by decide +kernel), List.mem_of_getElem? (i := 556) (by decide +kernel)⟩
theorem lw_p41 : lw_okq (⟨"GrudgeYard$Stand", "letDown", "(LGrudgeYard$Yard;II)I"⟩, 6) := ⟨⟨by decide +kernel, by decide +kernel⟩, List.mem_of_getElem? (i := 54) (by decide +kernel), List.mem_of_getElem? (i := 565) (by decide +kernel), List.mem_of_getElem? (i := 566) (by decide +kernel)⟩
theorem lw_p42 : lw_okq (⟨"GrudgeYard$Stand", "lastIn", "(I)I"⟩, 6) := ⟨⟨by decide +kernel, by decide +kernel⟩, List.mem_of_getElem? (i := 54) (by decide +kernel), List.mem_of_getElem? (i := 569) (by decide +kernel), List.mem_of_getElem? (i := 570) (by decide +kernel)⟩
theorem lw_p43 : lw_okq (⟨"GrudgeYard$Stand", "countKick", "(LGrudgeYard$Yard;II)V"⟩, 6) := ⟨⟨by decide +kernel, by decide +kernel⟩, List.mem_of_getElem? (i := 54) (by decide +kernel), List.mem_of_getElem? (i := 573) (by decide +kernel), List.mem_of_getElem? (i := 574) (by decide +kernel)⟩
theorem lw_p44 : lw_okq (⟨"GrudgeYard$Stand", "pullUp", "(I)I"⟩, 6) := ⟨⟨by decide +kernel, by decide +kernel⟩, List.mem_of_getElem? (i := 54) (by decide +kernel), List.mem_of_getElem? (i := 583) (by decide +kernel), List.mem_of_getElem? (i := 584) (by decide +kernel)⟩
theorem lw_p45 : lw_okq (⟨"GrudgeYard$Stand", "hasPeace", "(II)Z"⟩, 6) := ⟨⟨by decide +kernel, by decide +kernel⟩, List.mem_of_getElem? (i := 54) (by decide +kernel), List.mem_of_getElem? (i := 591) (by decide +kernel), List.mem_of_getElem? (i := 592) (by decide +kernel)⟩
theorem lw_p46 : lw_okq (⟨"GrudgeYard$Stand", "makePeace", "(II)V"⟩, 6) := ⟨⟨by decide +kernel, by decide +kernel⟩, List.mem_of_getElem? (i := 54) (by decide +kernel), List.mem_of_getElem? (i := 596) (by decide +kernel), List.mem_of_getElem? (i := 597) (by decide +kernel)⟩
theorem lw_p47 : lw_okq (⟨"GrudgeYard$Stand", "kicksBehind", "(LGrudgeYard$Yard;II)Z"⟩, 6) := ⟨⟨by decide +kernel, by decide +kernel⟩, List.mem_of_getElem? (i := 54) (by decide +kernel), List.mem_of_getElem? (i := 600) (by decide +kernel), List.mem_of_getElem? (i := 601) (by decide +kernel)⟩
def lw_privs_3 : List (MethodName × Nat) := [(⟨"GrudgeYard$Stand", "placeOf", "(I)I"⟩, 6), (⟨"GrudgeYard$Yard", "speedOf", "(I)I"⟩, 10), (⟨"GrudgeYard$Yard", "hasRoad", "(I)Z"⟩, 10), (⟨"GrudgeYard$Yard", "roomOf", "(I)I"⟩, 10), (⟨"GrudgeYard$Stand", "peaceOf", "(I)I"⟩, 6), (⟨"GrudgeYard$Stand", "fromHead", "(I)I"⟩, 6), (⟨"GrudgeYard$Yard", "kindsKick", "(II)Z"⟩, 10), (⟨"GrudgeYard$Past", "remember", "(LGrudgeYard$Stand;)V"⟩, 3), (⟨"GrudgeYard$Stand", "become", "(LGrudgeYard$Stand;)V"⟩, 6), (⟨"GrudgeYard$Stand", "letDown", "(LGrudgeYard$Yard;II)I"⟩, 6), (⟨"GrudgeYard$Stand", "lastIn", "(I)I"⟩, 6), (⟨"GrudgeYard$Stand", "countKick", "(LGrudgeYard$Yard;II)V"⟩, 6), (⟨"GrudgeYard$Stand", "pullUp", "(I)I"⟩, 6), (⟨"GrudgeYard$Stand", "hasPeace", "(II)Z"⟩, 6), (⟨"GrudgeYard$Stand", "makePeace", "(II)V"⟩, 6), (⟨"GrudgeYard$Stand", "kicksBehind", "(LGrudgeYard$Yard;II)Z"⟩, 6)]
theorem lw_r3 : ∀ q ∈ lw_privs_3, lw_okq q := List.forall_mem_cons.mpr ⟨lw_p32, List.forall_mem_cons.mpr ⟨lw_p33, List.forall_mem_cons.mpr ⟨lw_p34, List.forall_mem_cons.mpr ⟨lw_p35, List.forall_mem_cons.mpr ⟨lw_p36, List.forall_mem_cons.mpr ⟨lw_p37, List.forall_mem_cons.mpr ⟨lw_p38, List.forall_mem_cons.mpr ⟨lw_p39, List.forall_mem_cons.mpr ⟨lw_p40, List.forall_mem_cons.mpr ⟨lw_p41, List.forall_mem_cons.mpr ⟨lw_p42, List.forall_mem_cons.mpr ⟨lw_p43, List.forall_mem_cons.mpr ⟨lw_p44, List.forall_mem_cons.mpr ⟨lw_p45, List.forall_mem_cons.mpr ⟨lw_p46, List.forall_mem_cons.mpr ⟨lw_p47, fun _ h => absurd h List.not_mem_nil⟩⟩⟩⟩⟩⟩⟩⟩⟩⟩⟩⟩⟩⟩⟩⟩
theorem lw_p48 : lw_okq (⟨"GrudgeYard", "draw", "(I)I"⟩, 14) := ⟨⟨by decide +kernel, by decide +kernel⟩, List.mem_of_getElem? (i := 18) (by decide +kernel), List.mem_of_getElem? (i := 609) (by decide +kernel), List.mem_of_getElem? (i := 610) (by decide +kernel)⟩
theorem lw_p49 : lw_okq (⟨"GrudgeYard", "driftOnce", "(I)V"⟩, 14) := ⟨⟨by decide +kernel, by decide +kernel⟩, List.mem_of_getElem? (i := 18) (by decide +kernel), List.mem_of_getElem? (i := 617) (by decide +kernel), List.mem_of_getElem? (i := 618) (by decide +kernel)⟩
theorem lw_p50 : lw_okq (⟨"GrudgeYard$Past", "giveBack", "(LGrudgeYard$Stand;)Z"⟩, 3) := ⟨⟨by decide +kernel, by decide +kernel⟩, List.mem_of_getElem? (i := 82) (by decide +kernel), List.mem_of_getElem? (i := 625) (by decide +kernel), List.mem_of_getElem? (i := 626) (by decide +kernel)⟩
theorem lw_p51 : lw_okq (⟨"GrudgeYard$Board", "setUp", "(LGrudgeYard$Yard;LGrudgeYard$Stand;)V"⟩, 7) := ⟨⟨by decide +kernel, by decide +kernel⟩, List.mem_of_getElem? (i := 164) (by decide +kernel), List.mem_of_getElem? (i := 633) (by decide +kernel), List.mem_of_getElem? (i := 634) (by decide +kernel)⟩
theorem lw_p52 : lw_okq (⟨"GrudgeYard$Planner", "search", "(LGrudgeYard$Board;)V"⟩, 4) := ⟨⟨by decide +kernel, by decide +kernel⟩, List.mem_of_getElem? (i := 198) (by decide +kernel), List.mem_of_getElem? (i := 643) (by decide +kernel), List.mem_of_getElem? (i := 644) (by decide +kernel)⟩
theorem lw_p53 : lw_okq (⟨"GrudgeYard$Planner", "extend", "(LGrudgeYard$Board;III)V"⟩, 4) := ⟨⟨by decide +kernel, by decide +kernel⟩, List.mem_of_getElem? (i := 198) (by decide +kernel), List.mem_of_getElem? (i := 647) (by decide +kernel), List.mem_of_getElem? (i := 648) (by decide +kernel)⟩
theorem lw_p54 : lw_okq (⟨"GrudgeYard$Board", "hasRoom", "(I)Z"⟩, 7) := ⟨⟨by decide +kernel, by decide +kernel⟩, List.mem_of_getElem? (i := 164) (by decide +kernel), List.mem_of_getElem? (i := 652) (by decide +kernel), List.mem_of_getElem? (i := 653) (by decide +kernel)⟩
theorem lw_p55 : lw_okq (⟨"GrudgeYard$Board", "hasRoad", "(I)Z"⟩, 7) := ⟨⟨by decide +kernel, by decide +kernel⟩, List.mem_of_getElem? (i := 164) (by decide +kernel), List.mem_of_getElem? (i := 656) (by decide +kernel), List.mem_of_getElem? (i := 657) (by decide +kernel)⟩
theorem lw_p56 : lw_okq (⟨"GrudgeYard$Board", "lastKind", "(I)I"⟩, 7) := ⟨⟨by decide +kernel, by decide +kernel⟩, List.mem_of_getElem? (i := 164) (by decide +kernel), List.mem_of_getElem? (i := 660) (by decide +kernel), List.mem_of_getElem? (i := 661) (by decide +kernel)⟩
theorem lw_p57 : lw_okq (⟨"GrudgeYard$Board", "put", "(II)I"⟩, 7) := ⟨⟨by decide +kernel, by decide +kernel⟩, List.mem_of_getElem? (i := 164) (by decide +kernel), List.mem_of_getElem? (i := 664) (by decide +kernel), List.mem_of_getElem? (i := 665) (by decide +kernel)⟩
theorem lw_p58 : lw_okq (⟨"GrudgeYard$Board", "kindOf", "(I)I"⟩, 7) := ⟨⟨by decide +kernel, by decide +kernel⟩, List.mem_of_getElem? (i := 164) (by decide +kernel), List.mem_of_getElem? (i := 668) (by decide +kernel), List.mem_of_getElem? (i := 669) (by decide +kernel)⟩
theorem lw_p59 : lw_okq (⟨"GrudgeYard$Board", "takeBack", "(II)V"⟩, 7) := ⟨⟨by decide +kernel, by decide +kernel⟩, List.mem_of_getElem? (i := 164) (by decide +kernel), List.mem_of_getElem? (i := 673) (by decide +kernel), List.mem_of_getElem? (i := 674) (by decide +kernel)⟩
theorem lw_p60 : lw_okq (⟨"GrudgeYard$Planner", "found", "()Z"⟩, 4) := ⟨⟨by decide +kernel, by decide +kernel⟩, List.mem_of_getElem? (i := 198) (by decide +kernel), List.mem_of_getElem? (i := 677) (by decide +kernel), List.mem_of_getElem? (i := 678) (by decide +kernel)⟩
theorem lw_p61 : lw_okq (⟨"GrudgeYard$Planner", "roadOf", "(II)I"⟩, 4) := ⟨⟨by decide +kernel, by decide +kernel⟩, List.mem_of_getElem? (i := 198) (by decide +kernel), List.mem_of_getElem? (i := 681) (by decide +kernel), List.mem_of_getElem? (i := 682) (by decide +kernel)⟩
theorem lw_p62 : lw_okq (⟨"GrudgeYard$Yard", "sortingRoad", "(I)I"⟩, 10) := ⟨⟨by decide +kernel, by decide +kernel⟩, List.mem_of_getElem? (i := 235) (by decide +kernel), List.mem_of_getElem? (i := 689) (by decide +kernel), List.mem_of_getElem? (i := 690) (by decide +kernel)⟩
theorem lw_p63 : lw_okq (⟨"GrudgeYard$Yard", "firstRoadFor", "(II)I"⟩, 10) := ⟨⟨by decide +kernel, by decide +kernel⟩, List.mem_of_getElem? (i := 235) (by decide +kernel), List.mem_of_getElem? (i := 693) (by decide +kernel), List.mem_of_getElem? (i := 694) (by decide +kernel)⟩
def lw_privs_4 : List (MethodName × Nat) := [(⟨"GrudgeYard", "draw", "(I)I"⟩, 14), (⟨"GrudgeYard", "driftOnce", "(I)V"⟩, 14), (⟨"GrudgeYard$Past", "giveBack", "(LGrudgeYard$Stand;)Z"⟩, 3), (⟨"GrudgeYard$Board", "setUp", "(LGrudgeYard$Yard;LGrudgeYard$Stand;)V"⟩, 7), (⟨"GrudgeYard$Planner", "search", "(LGrudgeYard$Board;)V"⟩, 4), (⟨"GrudgeYard$Planner", "extend", "(LGrudgeYard$Board;III)V"⟩, 4), (⟨"GrudgeYard$Board", "hasRoom", "(I)Z"⟩, 7), (⟨"GrudgeYard$Board", "hasRoad", "(I)Z"⟩, 7), (⟨"GrudgeYard$Board", "lastKind", "(I)I"⟩, 7), (⟨"GrudgeYard$Board", "put", "(II)I"⟩, 7), (⟨"GrudgeYard$Board", "kindOf", "(I)I"⟩, 7), (⟨"GrudgeYard$Board", "takeBack", "(II)V"⟩, 7), (⟨"GrudgeYard$Planner", "found", "()Z"⟩, 4), (⟨"GrudgeYard$Planner", "roadOf", "(II)I"⟩, 4), (⟨"GrudgeYard$Yard", "sortingRoad", "(I)I"⟩, 10), (⟨"GrudgeYard$Yard", "firstRoadFor", "(II)I"⟩, 10)]
theorem lw_r4 : ∀ q ∈ lw_privs_4, lw_okq q := List.forall_mem_cons.mpr ⟨lw_p48, List.forall_mem_cons.mpr ⟨lw_p49, List.forall_mem_cons.mpr ⟨lw_p50, List.forall_mem_cons.mpr ⟨lw_p51, List.forall_mem_cons.mpr ⟨lw_p52, List.forall_mem_cons.mpr ⟨lw_p53, List.forall_mem_cons.mpr ⟨lw_p54, List.forall_mem_cons.mpr ⟨lw_p55, List.forall_mem_cons.mpr ⟨lw_p56, List.forall_mem_cons.mpr ⟨lw_p57, List.forall_mem_cons.mpr ⟨lw_p58, List.forall_mem_cons.mpr ⟨lw_p59, List.forall_mem_cons.mpr ⟨lw_p60, List.forall_mem_cons.mpr ⟨lw_p61, List.forall_mem_cons.mpr ⟨lw_p62, List.forall_mem_cons.mpr ⟨lw_p63, fun _ h => absurd h List.not_mem_nil⟩⟩⟩⟩⟩⟩⟩⟩⟩⟩⟩⟩⟩⟩⟩⟩
theorem lw_p64 : lw_okq (⟨"GrudgeYard$Yard", "timeOf", "(II)I"⟩, 10) := ⟨⟨by decide +kernel, by decide +kernel⟩, List.mem_of_getElem? (i := 235) (by decide +kernel), List.mem_of_getElem? (i := 702) (by decide +kernel), List.mem_of_getElem? (i := 703) (by decide +kernel)⟩
theorem lw_p65 : lw_okq (⟨"GrudgeYard$Couplings", "add", "(IIZ)Z"⟩, 3) := ⟨⟨by decide +kernel, by decide +kernel⟩, List.mem_of_getElem? (i := 123) (by decide +kernel), List.mem_of_getElem? (i := 734) (by decide +kernel), List.mem_of_getElem? (i := 735) (by decide +kernel)⟩
theorem lw_p66 : lw_okq (⟨"GrudgeYard$Couplings", "leastLaw", "()I"⟩, 3) := ⟨⟨by decide +kernel, by decide +kernel⟩, List.mem_of_getElem? (i := 123) (by decide +kernel), List.mem_of_getElem? (i := 743) (by decide +kernel), List.mem_of_getElem? (i := 744) (by decide +kernel)⟩
theorem lw_p67 : lw_okq (⟨"GrudgeYard$Couplings", "circusKicked", "()Z"⟩, 3) := ⟨⟨by decide +kernel, by decide +kernel⟩, List.mem_of_getElem? (i := 123) (by decide +kernel), List.mem_of_getElem? (i := 747) (by decide +kernel), List.mem_of_getElem? (i := 748) (by decide +kernel)⟩
theorem lw_p68 : lw_okq (⟨"GrudgeYard$Couplings", "lawsOf", "(I)I"⟩, 3) := ⟨⟨by decide +kernel, by decide +kernel⟩, List.mem_of_getElem? (i := 123) (by decide +kernel), List.mem_of_getElem? (i := 755) (by decide +kernel), List.mem_of_getElem? (i := 756) (by decide +kernel)⟩
theorem lw_p69 : lw_okq (⟨"GrudgeYard$Couplings", "firstUntried", "()I"⟩, 3) := ⟨⟨by decide +kernel, by decide +kernel⟩, List.mem_of_getElem? (i := 123) (by decide +kernel), List.mem_of_getElem? (i := 766) (by decide +kernel), List.mem_of_getElem? (i := 767) (by decide +kernel)⟩
theorem lw_p70 : lw_okq (⟨"GrudgeYard$Notes", "add", "(III)Z"⟩, 4) := ⟨⟨by decide +kernel, by decide +kernel⟩, List.mem_of_getElem? (i := 140) (by decide +kernel), List.mem_of_getElem? (i := 777) (by decide +kernel), List.mem_of_getElem? (i := 778) (by decide +kernel)⟩
theorem lw_p71 : lw_okq (⟨"GrudgeYard$Fitting", "search", "(LGrudgeYard$Board;LGrudgeYard$Yard;LGrudgeYard$Stand;LGrudgeYard$Notes;)I"⟩, 3) := ⟨⟨by decide +kernel, by decide +kernel⟩, List.mem_of_getElem? (i := 219) (by decide +kernel), List.mem_of_getElem? (i := 785) (by decide +kernel), List.mem_of_getElem? (i := 786) (by decide +kernel)⟩
theorem lw_p72 : lw_okq (⟨"GrudgeYard$Notes", "roadOf", "(I)I"⟩, 4) := ⟨⟨by decide +kernel, by decide +kernel⟩, List.mem_of_getElem? (i := 140) (by decide +kernel), List.mem_of_getElem? (i := 790) (by decide +kernel), List.mem_of_getElem? (i := 791) (by decide +kernel)⟩
theorem lw_p73 : lw_okq (⟨"GrudgeYard$Notes", "has", "(I)Z"⟩, 4) := ⟨⟨by decide +kernel, by decide +kernel⟩, List.mem_of_getElem? (i := 140) (by decide +kernel), List.mem_of_getElem? (i := 794) (by decide +kernel), List.mem_of_getElem? (i := 795) (by decide +kernel)⟩
theorem lw_p74 : lw_okq (⟨"GrudgeYard$Notes", "placeOf", "(I)I"⟩, 4) := ⟨⟨by decide +kernel, by decide +kernel⟩, List.mem_of_getElem? (i := 140) (by decide +kernel), List.mem_of_getElem? (i := 798) (by decide +kernel), List.mem_of_getElem? (i := 799) (by decide +kernel)⟩
theorem lw_p75 : lw_okq (⟨"GrudgeYard$Notes", "whatOf", "(I)I"⟩, 4) := ⟨⟨by decide +kernel, by decide +kernel⟩, List.mem_of_getElem? (i := 140) (by decide +kernel), List.mem_of_getElem? (i := 802) (by decide +kernel), List.mem_of_getElem? (i := 803) (by decide +kernel)⟩
theorem lw_p76 : lw_okq (⟨"GrudgeYard$Fitting", "want", "(III)V"⟩, 3) := ⟨⟨by decide +kernel, by decide +kernel⟩, List.mem_of_getElem? (i := 219) (by decide +kernel), List.mem_of_getElem? (i := 806) (by decide +kernel), List.mem_of_getElem? (i := 807) (by decide +kernel)⟩
theorem lw_p77 : lw_okq (⟨"GrudgeYard$Fitting", "wantedAt", "(II)I"⟩, 3) := ⟨⟨by decide +kernel, by decide +kernel⟩, List.mem_of_getElem? (i := 219) (by decide +kernel), List.mem_of_getElem? (i := 813) (by decide +kernel), List.mem_of_getElem? (i := 814) (by decide +kernel)⟩
theorem lw_p78 : lw_okq (⟨"GrudgeYard$Fitting", "rowsFrom", "(LGrudgeYard$Board;III)I"⟩, 3) := ⟨⟨by decide +kernel, by decide +kernel⟩, List.mem_of_getElem? (i := 219) (by decide +kernel), List.mem_of_getElem? (i := 823) (by decide +kernel), List.mem_of_getElem? (i := 824) (by decide +kernel)⟩
theorem lw_p79 : lw_okq (⟨"GrudgeYard$Fitting", "countRows", "(LGrudgeYard$Board;III)I"⟩, 3) := ⟨⟨by decide +kernel, by decide +kernel⟩, List.mem_of_getElem? (i := 219) (by decide +kernel), List.mem_of_getElem? (i := 827) (by decide +kernel), List.mem_of_getElem? (i := 828) (by decide +kernel)⟩
def lw_privs_5 : List (MethodName × Nat) := [(⟨"GrudgeYard$Yard", "timeOf", "(II)I"⟩, 10), (⟨"GrudgeYard$Couplings", "add", "(IIZ)Z"⟩, 3), (⟨"GrudgeYard$Couplings", "leastLaw", "()I"⟩, 3), (⟨"GrudgeYard$Couplings", "circusKicked", "()Z"⟩, 3), (⟨"GrudgeYard$Couplings", "lawsOf", "(I)I"⟩, 3), (⟨"GrudgeYard$Couplings", "firstUntried", "()I"⟩, 3), (⟨"GrudgeYard$Notes", "add", "(III)Z"⟩, 4), (⟨"GrudgeYard$Fitting", "search", "(LGrudgeYard$Board;LGrudgeYard$Yard;LGrudgeYard$Stand;LGrudgeYard$Notes;)I"⟩, 3), (⟨"GrudgeYard$Notes", "roadOf", "(I)I"⟩, 4), (⟨"GrudgeYard$Notes", "has", "(I)Z"⟩, 4), (⟨"GrudgeYard$Notes", "placeOf", "(I)I"⟩, 4), (⟨"GrudgeYard$Notes", "whatOf", "(I)I"⟩, 4), (⟨"GrudgeYard$Fitting", "want", "(III)V"⟩, 3), (⟨"GrudgeYard$Fitting", "wantedAt", "(II)I"⟩, 3), (⟨"GrudgeYard$Fitting", "rowsFrom", "(LGrudgeYard$Board;III)I"⟩, 3), (⟨"GrudgeYard$Fitting", "countRows", "(LGrudgeYard$Board;III)I"⟩, 3)]
theorem lw_r5 : ∀ q ∈ lw_privs_5, lw_okq q := List.forall_mem_cons.mpr ⟨lw_p64, List.forall_mem_cons.mpr ⟨lw_p65, List.forall_mem_cons.mpr ⟨lw_p66, List.forall_mem_cons.mpr ⟨lw_p67, List.forall_mem_cons.mpr ⟨lw_p68, List.forall_mem_cons.mpr ⟨lw_p69, List.forall_mem_cons.mpr ⟨lw_p70, List.forall_mem_cons.mpr ⟨lw_p71, List.forall_mem_cons.mpr ⟨lw_p72, List.forall_mem_cons.mpr ⟨lw_p73, List.forall_mem_cons.mpr ⟨lw_p74, List.forall_mem_cons.mpr ⟨lw_p75, List.forall_mem_cons.mpr ⟨lw_p76, List.forall_mem_cons.mpr ⟨lw_p77, List.forall_mem_cons.mpr ⟨lw_p78, List.forall_mem_cons.mpr ⟨lw_p79, fun _ h => absurd h List.not_mem_nil⟩⟩⟩⟩⟩⟩⟩⟩⟩⟩⟩⟩⟩⟩⟩⟩
theorem lw_p80 : lw_okq (⟨"GrudgeYard$Board", "countOf", "(I)I"⟩, 7) := ⟨⟨by decide +kernel, by decide +kernel⟩, List.mem_of_getElem? (i := 164) (by decide +kernel), List.mem_of_getElem? (i := 831) (by decide +kernel), List.mem_of_getElem? (i := 832) (by decide +kernel)⟩
theorem lw_p81 : lw_okq (⟨"GrudgeYard$Fitting", "sureRoad", "(II)I"⟩, 3) := ⟨⟨by decide +kernel, by decide +kernel⟩, List.mem_of_getElem? (i := 219) (by decide +kernel), List.mem_of_getElem? (i := 840) (by decide +kernel), List.mem_of_getElem? (i := 841) (by decide +kernel)⟩
theorem lw_p82 : lw_okq (⟨"GrudgeYard", "imageOf", "(I)LGrudgeYard$Image;"⟩, 14) := ⟨⟨by decide +kernel, by decide +kernel⟩, List.mem_of_getElem? (i := 18) (by decide +kernel), List.mem_of_getElem? (i := 872) (by decide +kernel), List.mem_of_getElem? (i := 873) (by decide +kernel)⟩
theorem lw_p83 : lw_okq (⟨"GrudgeYardModel", "begins", "()V"⟩, 36) := ⟨⟨by decide +kernel, by decide +kernel⟩, List.mem_of_getElem? (i := 881) (by decide +kernel), List.mem_of_getElem? (i := 887) (by decide +kernel), List.mem_of_getElem? (i := 888) (by decide +kernel)⟩
theorem lw_p84 : lw_okq (⟨"GrudgeYardModel", "step", "()V"⟩, 36) := ⟨⟨by decide +kernel, by decide +kernel⟩, List.mem_of_getElem? (i := 881) (by decide +kernel), List.mem_of_getElem? (i := 1015) (by decide +kernel), List.mem_of_getElem? (i := 1016) (by decide +kernel)⟩
theorem lw_p85 : lw_okq (⟨"GrudgeYardModel", "here", "()I"⟩, 36) := ⟨⟨by decide +kernel, by decide +kernel⟩, List.mem_of_getElem? (i := 881) (by decide +kernel), List.mem_of_getElem? (i := 1019) (by decide +kernel), List.mem_of_getElem? (i := 1020) (by decide +kernel)⟩
theorem lw_p86 : lw_okq (⟨"GrudgeYardModel", "readsClause", "()Z"⟩, 36) := ⟨⟨by decide +kernel, by decide +kernel⟩, List.mem_of_getElem? (i := 881) (by decide +kernel), List.mem_of_getElem? (i := 1025) (by decide +kernel), List.mem_of_getElem? (i := 1026) (by decide +kernel)⟩
theorem lw_p87 : lw_okq (⟨"GrudgeYardModel", "readsRoads", "()Z"⟩, 36) := ⟨⟨by decide +kernel, by decide +kernel⟩, List.mem_of_getElem? (i := 881) (by decide +kernel), List.mem_of_getElem? (i := 1029) (by decide +kernel), List.mem_of_getElem? (i := 1030) (by decide +kernel)⟩
theorem lw_p88 : lw_okq (⟨"GrudgeYardModel", "fails", "(I)Z"⟩, 36) := ⟨⟨by decide +kernel, by decide +kernel⟩, List.mem_of_getElem? (i := 881) (by decide +kernel), List.mem_of_getElem? (i := 1033) (by decide +kernel), List.mem_of_getElem? (i := 1034) (by decide +kernel)⟩
theorem lw_p89 : lw_okq (⟨"GrudgeYardModel", "number", "(III)Z"⟩, 36) := ⟨⟨by decide +kernel, by decide +kernel⟩, List.mem_of_getElem? (i := 881) (by decide +kernel), List.mem_of_getElem? (i := 1037) (by decide +kernel), List.mem_of_getElem? (i := 1038) (by decide +kernel)⟩
theorem lw_p90 : lw_okq (⟨"GrudgeYardModel", "readsWagon", "()Z"⟩, 36) := ⟨⟨by decide +kernel, by decide +kernel⟩, List.mem_of_getElem? (i := 881) (by decide +kernel), List.mem_of_getElem? (i := 1041) (by decide +kernel), List.mem_of_getElem? (i := 1042) (by decide +kernel)⟩
theorem lw_p91 : lw_okq (⟨"GrudgeYardModel", "ends", "()Z"⟩, 36) := ⟨⟨by decide +kernel, by decide +kernel⟩, List.mem_of_getElem? (i := 881) (by decide +kernel), List.mem_of_getElem? (i := 1045) (by decide +kernel), List.mem_of_getElem? (i := 1046) (by decide +kernel)⟩
theorem lw_p92 : lw_okq (⟨"GrudgeYardModel", "readsEnemies", "()Z"⟩, 36) := ⟨⟨by decide +kernel, by decide +kernel⟩, List.mem_of_getElem? (i := 881) (by decide +kernel), List.mem_of_getElem? (i := 1049) (by decide +kernel), List.mem_of_getElem? (i := 1050) (by decide +kernel)⟩
theorem lw_p93 : lw_okq (⟨"GrudgeYardModel", "readsTrain", "()Z"⟩, 36) := ⟨⟨by decide +kernel, by decide +kernel⟩, List.mem_of_getElem? (i := 881) (by decide +kernel), List.mem_of_getElem? (i := 1056) (by decide +kernel), List.mem_of_getElem? (i := 1057) (by decide +kernel)⟩
theorem lw_p94 : lw_okq (⟨"GrudgeYardModel", "isWagon", "(I)Z"⟩, 36) := ⟨⟨by decide +kernel, by decide +kernel⟩, List.mem_of_getElem? (i := 881) (by decide +kernel), List.mem_of_getElem? (i := 1072) (by decide +kernel), List.mem_of_getElem? (i := 1073) (by decide +kernel)⟩
theorem lw_p95 : lw_okq (⟨"GrudgeYardModel", "roadOf", "(I)I"⟩, 36) := ⟨⟨by decide +kernel, by decide +kernel⟩, List.mem_of_getElem? (i := 881) (by decide +kernel), List.mem_of_getElem? (i := 1077) (by decide +kernel), List.mem_of_getElem? (i := 1078) (by decide +kernel)⟩
def lw_privs_6 : List (MethodName × Nat) := [(⟨"GrudgeYard$Board", "countOf", "(I)I"⟩, 7), (⟨"GrudgeYard$Fitting", "sureRoad", "(II)I"⟩, 3), (⟨"GrudgeYard", "imageOf", "(I)LGrudgeYard$Image;"⟩, 14), (⟨"GrudgeYardModel", "begins", "()V"⟩, 36), (⟨"GrudgeYardModel", "step", "()V"⟩, 36), (⟨"GrudgeYardModel", "here", "()I"⟩, 36), (⟨"GrudgeYardModel", "readsClause", "()Z"⟩, 36), (⟨"GrudgeYardModel", "readsRoads", "()Z"⟩, 36), (⟨"GrudgeYardModel", "fails", "(I)Z"⟩, 36), (⟨"GrudgeYardModel", "number", "(III)Z"⟩, 36), (⟨"GrudgeYardModel", "readsWagon", "()Z"⟩, 36), (⟨"GrudgeYardModel", "ends", "()Z"⟩, 36), (⟨"GrudgeYardModel", "readsEnemies", "()Z"⟩, 36), (⟨"GrudgeYardModel", "readsTrain", "()Z"⟩, 36), (⟨"GrudgeYardModel", "isWagon", "(I)Z"⟩, 36), (⟨"GrudgeYardModel", "roadOf", "(I)I"⟩, 36)]
theorem lw_r6 : ∀ q ∈ lw_privs_6, lw_okq q := List.forall_mem_cons.mpr ⟨lw_p80, List.forall_mem_cons.mpr ⟨lw_p81, List.forall_mem_cons.mpr ⟨lw_p82, List.forall_mem_cons.mpr ⟨lw_p83, List.forall_mem_cons.mpr ⟨lw_p84, List.forall_mem_cons.mpr ⟨lw_p85, List.forall_mem_cons.mpr ⟨lw_p86, List.forall_mem_cons.mpr ⟨lw_p87, List.forall_mem_cons.mpr ⟨lw_p88, List.forall_mem_cons.mpr ⟨lw_p89, List.forall_mem_cons.mpr ⟨lw_p90, List.forall_mem_cons.mpr ⟨lw_p91, List.forall_mem_cons.mpr ⟨lw_p92, List.forall_mem_cons.mpr ⟨lw_p93, List.forall_mem_cons.mpr ⟨lw_p94, List.forall_mem_cons.mpr ⟨lw_p95, fun _ h => absurd h List.not_mem_nil⟩⟩⟩⟩⟩⟩⟩⟩⟩⟩⟩⟩⟩⟩⟩⟩
theorem lw_p96 : lw_okq (⟨"GrudgeYardModel", "speed", "(I)I"⟩, 36) := ⟨⟨by decide +kernel, by decide +kernel⟩, List.mem_of_getElem? (i := 881) (by decide +kernel), List.mem_of_getElem? (i := 1084) (by decide +kernel), List.mem_of_getElem? (i := 1085) (by decide +kernel)⟩
theorem lw_p97 : lw_okq (⟨"GrudgeYardModel", "isRoad", "(I)Z"⟩, 36) := ⟨⟨by decide +kernel, by decide +kernel⟩, List.mem_of_getElem? (i := 881) (by decide +kernel), List.mem_of_getElem? (i := 1092) (by decide +kernel), List.mem_of_getElem? (i := 1093) (by decide +kernel)⟩
theorem lw_p98 : lw_okq (⟨"GrudgeYardModel", "areEnemies", "(II)Z"⟩, 36) := ⟨⟨by decide +kernel, by decide +kernel⟩, List.mem_of_getElem? (i := 881) (by decide +kernel), List.mem_of_getElem? (i := 1108) (by decide +kernel), List.mem_of_getElem? (i := 1109) (by decide +kernel)⟩
theorem lw_p99 : lw_okq (⟨"GrudgeYardModel", "mayCut", "(II)Z"⟩, 36) := ⟨⟨by decide +kernel, by decide +kernel⟩, List.mem_of_getElem? (i := 881) (by decide +kernel), List.mem_of_getElem? (i := 1117) (by decide +kernel), List.mem_of_getElem? (i := 1118) (by decide +kernel)⟩
theorem lw_p100 : lw_okq (⟨"GrudgeYardModel", "remember", "()V"⟩, 36) := ⟨⟨by decide +kernel, by decide +kernel⟩, List.mem_of_getElem? (i := 881) (by decide +kernel), List.mem_of_getElem? (i := 1122) (by decide +kernel), List.mem_of_getElem? (i := 1123) (by decide +kernel)⟩
theorem lw_p101 : lw_okq (⟨"GrudgeYardModel", "cuts", "(II)I"⟩, 36) := ⟨⟨by decide +kernel, by decide +kernel⟩, List.mem_of_getElem? (i := 881) (by decide +kernel), List.mem_of_getElem? (i := 1129) (by decide +kernel), List.mem_of_getElem? (i := 1130) (by decide +kernel)⟩
theorem lw_p102 : lw_okq (⟨"GrudgeYardModel", "kick", "(II)Z"⟩, 36) := ⟨⟨by decide +kernel, by decide +kernel⟩, List.mem_of_getElem? (i := 881) (by decide +kernel), List.mem_of_getElem? (i := 1133) (by decide +kernel), List.mem_of_getElem? (i := 1134) (by decide +kernel)⟩
theorem lw_p103 : lw_okq (⟨"GrudgeYardModel", "pulls", "(I)I"⟩, 36) := ⟨⟨by decide +kernel, by decide +kernel⟩, List.mem_of_getElem? (i := 881) (by decide +kernel), List.mem_of_getElem? (i := 1141) (by decide +kernel), List.mem_of_getElem? (i := 1142) (by decide +kernel)⟩
theorem lw_p104 : lw_okq (⟨"GrudgeYardModel", "draw", "(I)I"⟩, 36) := ⟨⟨by decide +kernel, by decide +kernel⟩, List.mem_of_getElem? (i := 881) (by decide +kernel), List.mem_of_getElem? (i := 1155) (by decide +kernel), List.mem_of_getElem? (i := 1156) (by decide +kernel)⟩
theorem lw_p105 : lw_okq (⟨"GrudgeYardModel", "codes", "()I"⟩, 36) := ⟨⟨by decide +kernel, by decide +kernel⟩, List.mem_of_getElem? (i := 881) (by decide +kernel), List.mem_of_getElem? (i := 1172) (by decide +kernel), List.mem_of_getElem? (i := 1173) (by decide +kernel)⟩
theorem lw_p106 : lw_okq (⟨"GrudgeYardModel", "layRow", "(III)V"⟩, 36) := ⟨⟨by decide +kernel, by decide +kernel⟩, List.mem_of_getElem? (i := 881) (by decide +kernel), List.mem_of_getElem? (i := 1176) (by decide +kernel), List.mem_of_getElem? (i := 1177) (by decide +kernel)⟩
theorem lw_p107 : lw_okq (⟨"GrudgeYardModel", "costs", "()I"⟩, 36) := ⟨⟨by decide +kernel, by decide +kernel⟩, List.mem_of_getElem? (i := 881) (by decide +kernel), List.mem_of_getElem? (i := 1180) (by decide +kernel), List.mem_of_getElem? (i := 1181) (by decide +kernel)⟩
theorem lw_p108 : lw_okq (⟨"GrudgeYardModel", "layRoads", "()V"⟩, 36) := ⟨⟨by decide +kernel, by decide +kernel⟩, List.mem_of_getElem? (i := 881) (by decide +kernel), List.mem_of_getElem? (i := 1184) (by decide +kernel), List.mem_of_getElem? (i := 1185) (by decide +kernel)⟩
theorem lw_p109 : lw_okq (⟨"GrudgeYardModel", "layTrain", "()I"⟩, 36) := ⟨⟨by decide +kernel, by decide +kernel⟩, List.mem_of_getElem? (i := 881) (by decide +kernel), List.mem_of_getElem? (i := 1192) (by decide +kernel), List.mem_of_getElem? (i := 1193) (by decide +kernel)⟩
theorem lw_p110 : lw_okq (⟨"GrudgeYardModel", "draws", "()Z"⟩, 36) := ⟨⟨by decide +kernel, by decide +kernel⟩, List.mem_of_getElem? (i := 881) (by decide +kernel), List.mem_of_getElem? (i := 1196) (by decide +kernel), List.mem_of_getElem? (i := 1197) (by decide +kernel)⟩
theorem lw_p111 : lw_okq (⟨"GrudgeYardModel", "beginsStep", "(I)V"⟩, 36) := ⟨⟨by decide +kernel, by decide +kernel⟩, List.mem_of_getElem? (i := 881) (by decide +kernel), List.mem_of_getElem? (i := 1209) (by decide +kernel), List.mem_of_getElem? (i := 1210) (by decide +kernel)⟩
def lw_privs_7 : List (MethodName × Nat) := [(⟨"GrudgeYardModel", "speed", "(I)I"⟩, 36), (⟨"GrudgeYardModel", "isRoad", "(I)Z"⟩, 36), (⟨"GrudgeYardModel", "areEnemies", "(II)Z"⟩, 36), (⟨"GrudgeYardModel", "mayCut", "(II)Z"⟩, 36), (⟨"GrudgeYardModel", "remember", "()V"⟩, 36), (⟨"GrudgeYardModel", "cuts", "(II)I"⟩, 36), (⟨"GrudgeYardModel", "kick", "(II)Z"⟩, 36), (⟨"GrudgeYardModel", "pulls", "(I)I"⟩, 36), (⟨"GrudgeYardModel", "draw", "(I)I"⟩, 36), (⟨"GrudgeYardModel", "codes", "()I"⟩, 36), (⟨"GrudgeYardModel", "layRow", "(III)V"⟩, 36), (⟨"GrudgeYardModel", "costs", "()I"⟩, 36), (⟨"GrudgeYardModel", "layRoads", "()V"⟩, 36), (⟨"GrudgeYardModel", "layTrain", "()I"⟩, 36), (⟨"GrudgeYardModel", "draws", "()Z"⟩, 36), (⟨"GrudgeYardModel", "beginsStep", "(I)V"⟩, 36)]
theorem lw_r7 : ∀ q ∈ lw_privs_7, lw_okq q := List.forall_mem_cons.mpr ⟨lw_p96, List.forall_mem_cons.mpr ⟨lw_p97, List.forall_mem_cons.mpr ⟨lw_p98, List.forall_mem_cons.mpr ⟨lw_p99, List.forall_mem_cons.mpr ⟨lw_p100, List.forall_mem_cons.mpr ⟨lw_p101, List.forall_mem_cons.mpr ⟨lw_p102, List.forall_mem_cons.mpr ⟨lw_p103, List.forall_mem_cons.mpr ⟨lw_p104, List.forall_mem_cons.mpr ⟨lw_p105, List.forall_mem_cons.mpr ⟨lw_p106, List.forall_mem_cons.mpr ⟨lw_p107, List.forall_mem_cons.mpr ⟨lw_p108, List.forall_mem_cons.mpr ⟨lw_p109, List.forall_mem_cons.mpr ⟨lw_p110, List.forall_mem_cons.mpr ⟨lw_p111, fun _ h => absurd h List.not_mem_nil⟩⟩⟩⟩⟩⟩⟩⟩⟩⟩⟩⟩⟩⟩⟩⟩
theorem lw_p112 : lw_okq (⟨"GrudgeYardModel", "weighs", "(II)V"⟩, 36) := ⟨⟨by decide +kernel, by decide +kernel⟩, List.mem_of_getElem? (i := 881) (by decide +kernel), List.mem_of_getElem? (i := 1213) (by decide +kernel), List.mem_of_getElem? (i := 1214) (by decide +kernel)⟩
theorem lw_p113 : lw_okq (⟨"GrudgeYardModel", "goes", "(I)Z"⟩, 36) := ⟨⟨by decide +kernel, by decide +kernel⟩, List.mem_of_getElem? (i := 881) (by decide +kernel), List.mem_of_getElem? (i := 1217) (by decide +kernel), List.mem_of_getElem? (i := 1218) (by decide +kernel)⟩
theorem lw_p114 : lw_okq (⟨"GrudgeYardModel", "triedOf", "(II)I"⟩, 36) := ⟨⟨by decide +kernel, by decide +kernel⟩, List.mem_of_getElem? (i := 881) (by decide +kernel), List.mem_of_getElem? (i := 1241) (by decide +kernel), List.mem_of_getElem? (i := 1242) (by decide +kernel)⟩
theorem lw_p115 : lw_okq (⟨"GrudgeYardModel", "fits", "()Z"⟩, 36) := ⟨⟨by decide +kernel, by decide +kernel⟩, List.mem_of_getElem? (i := 881) (by decide +kernel), List.mem_of_getElem? (i := 1258) (by decide +kernel), List.mem_of_getElem? (i := 1259) (by decide +kernel)⟩
def lw_privs_8 : List (MethodName × Nat) := [(⟨"GrudgeYardModel", "weighs", "(II)V"⟩, 36), (⟨"GrudgeYardModel", "goes", "(I)Z"⟩, 36), (⟨"GrudgeYardModel", "triedOf", "(II)I"⟩, 36), (⟨"GrudgeYardModel", "fits", "()Z"⟩, 36)]
theorem lw_r8 : ∀ q ∈ lw_privs_8, lw_okq q := List.forall_mem_cons.mpr ⟨lw_p112, List.forall_mem_cons.mpr ⟨lw_p113, List.forall_mem_cons.mpr ⟨lw_p114, List.forall_mem_cons.mpr ⟨lw_p115, fun _ h => absurd h List.not_mem_nil⟩⟩⟩⟩
def lw_privs : List (MethodName × Nat) := lw_privs_1 ++ (lw_privs_2 ++ (lw_privs_3 ++ (lw_privs_4 ++ (lw_privs_5 ++ (lw_privs_6 ++ (lw_privs_7 ++ (lw_privs_8)))))))
def lw_tbl : List Cond := k2_sels lw_privs ++ tables_1
theorem lw_privs_ok : ∀ q ∈ lw_privs, lw_okq q := by
  show ∀ q ∈ lw_privs_1 ++ (lw_privs_2 ++ (lw_privs_3 ++ (lw_privs_4 ++ (lw_privs_5 ++ (lw_privs_6 ++ (lw_privs_7 ++ (lw_privs_8))))))), lw_okq q
  exact List.forall_mem_append.mpr ⟨lw_r1, List.forall_mem_append.mpr ⟨lw_r2, List.forall_mem_append.mpr ⟨lw_r3, List.forall_mem_append.mpr ⟨lw_r4, List.forall_mem_append.mpr ⟨lw_r5, List.forall_mem_append.mpr ⟨lw_r6, List.forall_mem_append.mpr ⟨lw_r7, lw_r8⟩⟩⟩⟩⟩⟩⟩
def RX0 : String := "GrudgeYard$Board"
def TX0 : u_T := fun k => match k with
  | 0 => ("GrudgeYard$Board", "kinds", "[I", true)
  | 1 => ("GrudgeYard$Board", "rooms", "[I", true)
  | 2 => ("GrudgeYard$Board", "counts", "[I", true)
  | 3 => ("GrudgeYard$Board", "lasts", "[I", true)
  | 4 => ("GrudgeYard$Board", "roads", "I", false)
  | 5 => ("GrudgeYard$Board", "waiting", "I", false)
  | _ => ("GrudgeYard$Board", "grudges", "I", false)
def tyX0 : Nat → FieldType := fun k => match k with
  | 0 => .array .int
  | 1 => .array .int
  | 2 => .array .int
  | 3 => .array .int
  | 4 => .int
  | 5 => .int
  | _ => .int
abbrev wsX00 : List Cond := u_ws RX0 TX0 7
theorem nmX0 : ∀ a, a < 7 → ∀ b, b < 7 → a ≠ b → (TX0 a).2.1 ≠ (TX0 b).2.1 := by decide +kernel
theorem tyX0_ok : ∀ k, k < 7 → parseFieldDescriptor (TX0 k).2.2.1 = some (tyX0 k) := by decide +kernel
abbrev cX0_init : ByteArray := prog_2_method_1_code
def yX0_init : MethodName := ⟨RX0, "<init>", "()V"⟩
abbrev cX0_setUp : ByteArray := prog_2_method_2_code
def yX0_setUp : MethodName := ⟨RX0, "setUp", "(LGrudgeYard$Yard;LGrudgeYard$Stand;)V"⟩
abbrev cX0_hasRoad : ByteArray := prog_2_method_3_code
def yX0_hasRoad : MethodName := ⟨RX0, "hasRoad", "(I)Z"⟩
abbrev cX0_hasRoom : ByteArray := prog_2_method_4_code
def yX0_hasRoom : MethodName := ⟨RX0, "hasRoom", "(I)Z"⟩
abbrev cX0_countOf : ByteArray := prog_2_method_5_code
def yX0_countOf : MethodName := ⟨RX0, "countOf", "(I)I"⟩
abbrev cX0_lastKind : ByteArray := prog_2_method_6_code
def yX0_lastKind : MethodName := ⟨RX0, "lastKind", "(I)I"⟩
abbrev cX0_kindOf : ByteArray := prog_2_method_7_code
def yX0_kindOf : MethodName := ⟨RX0, "kindOf", "(I)I"⟩
abbrev cX0_put : ByteArray := prog_2_method_8_code
def yX0_put : MethodName := ⟨RX0, "put", "(II)I"⟩
abbrev cX0_takeBack : ByteArray := prog_2_method_9_code
def yX0_takeBack : MethodName := ⟨RX0, "takeBack", "(II)V"⟩
def RX1 : String := "GrudgeYard$Couplings"
def TX1 : u_T := fun k => match k with
  | 0 => ("GrudgeYard$Couplings", "count", "I", false)
  | 1 => ("GrudgeYard$Couplings", "tried", "I", false)
  | _ => ("GrudgeYard$Couplings", "kicked", "I", false)
def tyX1 : Nat → FieldType := fun k => match k with
  | 0 => .int
  | 1 => .int
  | _ => .int
abbrev wsX10 : List Cond := u_ws RX1 TX1 3
theorem nmX1 : ∀ a, a < 3 → ∀ b, b < 3 → a ≠ b → (TX1 a).2.1 ≠ (TX1 b).2.1 := by decide +kernel
theorem tyX1_ok : ∀ k, k < 3 → parseFieldDescriptor (TX1 k).2.2.1 = some (tyX1 k) := by decide +kernel
abbrev cX1_init : ByteArray := prog_3_method_1_code
def yX1_init : MethodName := ⟨RX1, "<init>", "()V"⟩
abbrev cX1_forget : ByteArray := prog_3_method_2_code
def yX1_forget : MethodName := ⟨RX1, "forget", "()V"⟩
abbrev cX1_add : ByteArray := prog_3_method_3_code
def yX1_add : MethodName := ⟨RX1, "add", "(IIZ)Z"⟩
abbrev cX1_leastLaw : ByteArray := prog_3_method_4_code
def yX1_leastLaw : MethodName := ⟨RX1, "leastLaw", "()I"⟩
abbrev cX1_lawsOf : ByteArray := prog_3_method_5_code
def yX1_lawsOf : MethodName := ⟨RX1, "lawsOf", "(I)I"⟩
abbrev cX1_firstUntried : ByteArray := prog_3_method_6_code
def yX1_firstUntried : MethodName := ⟨RX1, "firstUntried", "()I"⟩
abbrev cX1_circusKicked : ByteArray := prog_3_method_7_code
def yX1_circusKicked : MethodName := ⟨RX1, "circusKicked", "()Z"⟩
abbrev cX1_pairsIn : ByteArray := prog_3_method_8_code
def yX1_pairsIn : MethodName := ⟨RX1, "pairsIn", "(I)I"⟩
abbrev cX1_choose : ByteArray := prog_3_method_9_code
def yX1_choose : MethodName := ⟨RX1, "choose", "(II)I"⟩
def RX2 : String := "GrudgeYard$Fitting"
def TX2 : u_T := fun k => match k with
  | 0 => ("GrudgeYard$Fitting", "counted", "[I", true)
  | 1 => ("GrudgeYard$Fitting", "wanted", "[I", true)
  | _ => ("GrudgeYard$Fitting", "roadSets", "[I", true)
def tyX2 : Nat → FieldType := fun k => match k with
  | 0 => .array .int
  | 1 => .array .int
  | _ => .array .int
abbrev wsX20 : List Cond := u_ws RX2 TX2 3
theorem nmX2 : ∀ a, a < 3 → ∀ b, b < 3 → a ≠ b → (TX2 a).2.1 ≠ (TX2 b).2.1 := by decide +kernel
theorem tyX2_ok : ∀ k, k < 3 → parseFieldDescriptor (TX2 k).2.2.1 = some (tyX2 k) := by decide +kernel
abbrev cX2_init : ByteArray := prog_4_method_1_code
def yX2_init : MethodName := ⟨RX2, "<init>", "()V"⟩
abbrev cX2_search : ByteArray := prog_4_method_2_code
def yX2_search : MethodName := ⟨RX2, "search", "(LGrudgeYard$Board;LGrudgeYard$Yard;LGrudgeYard$Stand;LGrudgeYard$Notes;)I"⟩
abbrev cX2_want : ByteArray := prog_4_method_3_code
def yX2_want : MethodName := ⟨RX2, "want", "(III)V"⟩
abbrev cX2_isPlace : ByteArray := prog_4_method_4_code
def yX2_isPlace : MethodName := ⟨RX2, "isPlace", "(II)Z"⟩
abbrev cX2_wantedAt : ByteArray := prog_4_method_5_code
def yX2_wantedAt : MethodName := ⟨RX2, "wantedAt", "(II)I"⟩
abbrev cX2_needsWagon : ByteArray := prog_4_method_6_code
def yX2_needsWagon : MethodName := ⟨RX2, "needsWagon", "(I)Z"⟩
abbrev cX2_rowsFrom : ByteArray := prog_4_method_7_code
def yX2_rowsFrom : MethodName := ⟨RX2, "rowsFrom", "(LGrudgeYard$Board;III)I"⟩
abbrev cX2_countRows : ByteArray := prog_4_method_8_code
def yX2_countRows : MethodName := ⟨RX2, "countRows", "(LGrudgeYard$Board;III)I"⟩
abbrev cX2_sureRoad : ByteArray := prog_4_method_9_code
def yX2_sureRoad : MethodName := ⟨RX2, "sureRoad", "(II)I"⟩
def RX3 : String := "GrudgeYard$Image"
def TX3 : u_T := fun k => match k with
  | 0 => ("GrudgeYard$Image", "stand", "LGrudgeYard$Stand;", true)
  | 1 => ("GrudgeYard$Image", "seed", "I", false)
  | _ => ("GrudgeYard$Image", "kept", "Z", false)
def tyX3 : Nat → FieldType := fun k => match k with
  | 0 => .object "GrudgeYard$Stand"
  | 1 => .int
  | _ => .boolean
abbrev wsX30 : List Cond := u_ws RX3 TX3 3
theorem nmX3 : ∀ a, a < 3 → ∀ b, b < 3 → a ≠ b → (TX3 a).2.1 ≠ (TX3 b).2.1 := by decide +kernel
theorem tyX3_ok : ∀ k, k < 3 → parseFieldDescriptor (TX3 k).2.2.1 = some (tyX3 k) := by decide +kernel
abbrev cX3_init : ByteArray := prog_5_method_1_code
def yX3_init : MethodName := ⟨RX3, "<init>", "()V"⟩
def RX4 : String := "GrudgeYard$Notes"
def TX4 : u_T := fun k => match k with
  | 0 => ("GrudgeYard$Notes", "roads", "[I", true)
  | 1 => ("GrudgeYard$Notes", "places", "[I", true)
  | 2 => ("GrudgeYard$Notes", "whats", "[I", true)
  | _ => ("GrudgeYard$Notes", "count", "I", false)
def tyX4 : Nat → FieldType := fun k => match k with
  | 0 => .array .int
  | 1 => .array .int
  | 2 => .array .int
  | _ => .int
abbrev wsX40 : List Cond := u_ws RX4 TX4 4
theorem nmX4 : ∀ a, a < 4 → ∀ b, b < 4 → a ≠ b → (TX4 a).2.1 ≠ (TX4 b).2.1 := by decide +kernel
theorem tyX4_ok : ∀ k, k < 4 → parseFieldDescriptor (TX4 k).2.2.1 = some (tyX4 k) := by decide +kernel
abbrev cX4_init : ByteArray := prog_6_method_1_code
def yX4_init : MethodName := ⟨RX4, "<init>", "(I)V"⟩
abbrev cX4_add : ByteArray := prog_6_method_2_code
def yX4_add : MethodName := ⟨RX4, "add", "(III)Z"⟩
abbrev cX4_has : ByteArray := prog_6_method_3_code
def yX4_has : MethodName := ⟨RX4, "has", "(I)Z"⟩
abbrev cX4_roadOf : ByteArray := prog_6_method_4_code
def yX4_roadOf : MethodName := ⟨RX4, "roadOf", "(I)I"⟩
abbrev cX4_placeOf : ByteArray := prog_6_method_5_code
def yX4_placeOf : MethodName := ⟨RX4, "placeOf", "(I)I"⟩
abbrev cX4_whatOf : ByteArray := prog_6_method_6_code
def yX4_whatOf : MethodName := ⟨RX4, "whatOf", "(I)I"⟩
def RX5 : String := "GrudgeYard$Past"
def TX5 : u_T := fun k => match k with
  | 0 => ("GrudgeYard$Past", "ring", "[LGrudgeYard$Stand;", true)
  | 1 => ("GrudgeYard$Past", "count", "I", false)
  | _ => ("GrudgeYard$Past", "newest", "I", false)
def tyX5 : Nat → FieldType := fun k => match k with
  | 0 => .array (.object "GrudgeYard$Stand")
  | 1 => .int
  | _ => .int
abbrev wsX50 : List Cond := u_ws RX5 TX5 3
theorem nmX5 : ∀ a, a < 3 → ∀ b, b < 3 → a ≠ b → (TX5 a).2.1 ≠ (TX5 b).2.1 := by decide +kernel
theorem tyX5_ok : ∀ k, k < 3 → parseFieldDescriptor (TX5 k).2.2.1 = some (tyX5 k) := by decide +kernel
abbrev cX5_init : ByteArray := prog_7_method_1_code
def yX5_init : MethodName := ⟨RX5, "<init>", "()V"⟩
abbrev cX5_forget : ByteArray := prog_7_method_2_code
def yX5_forget : MethodName := ⟨RX5, "forget", "()V"⟩
abbrev cX5_remember : ByteArray := prog_7_method_3_code
def yX5_remember : MethodName := ⟨RX5, "remember", "(LGrudgeYard$Stand;)V"⟩
abbrev cX5_giveBack : ByteArray := prog_7_method_4_code
def yX5_giveBack : MethodName := ⟨RX5, "giveBack", "(LGrudgeYard$Stand;)Z"⟩
def RX6 : String := "GrudgeYard$Planner"
def TX6 : u_T := fun k => match k with
  | 0 => ("GrudgeYard$Planner", "row", "[I", true)
  | 1 => ("GrudgeYard$Planner", "best", "[I", true)
  | 2 => ("GrudgeYard$Planner", "bestKicks", "I", false)
  | _ => ("GrudgeYard$Planner", "bestCuts", "I", false)
def tyX6 : Nat → FieldType := fun k => match k with
  | 0 => .array .int
  | 1 => .array .int
  | 2 => .int
  | _ => .int
abbrev wsX60 : List Cond := u_ws RX6 TX6 4
theorem nmX6 : ∀ a, a < 4 → ∀ b, b < 4 → a ≠ b → (TX6 a).2.1 ≠ (TX6 b).2.1 := by decide +kernel
theorem tyX6_ok : ∀ k, k < 4 → parseFieldDescriptor (TX6 k).2.2.1 = some (tyX6 k) := by decide +kernel
abbrev cX6_init : ByteArray := prog_8_method_1_code
def yX6_init : MethodName := ⟨RX6, "<init>", "()V"⟩
abbrev cX6_search : ByteArray := prog_8_method_2_code
def yX6_search : MethodName := ⟨RX6, "search", "(LGrudgeYard$Board;)V"⟩
abbrev cX6_found : ByteArray := prog_8_method_3_code
def yX6_found : MethodName := ⟨RX6, "found", "()Z"⟩
abbrev cX6_roadOf : ByteArray := prog_8_method_4_code
def yX6_roadOf : MethodName := ⟨RX6, "roadOf", "(II)I"⟩
abbrev cX6_extend : ByteArray := prog_8_method_5_code
def yX6_extend : MethodName := ⟨RX6, "extend", "(LGrudgeYard$Board;III)V"⟩
def RX7 : String := "GrudgeYard$Reader"
def TX7 : u_T := fun k => match k with
  | 0 => ("GrudgeYard$Reader", "letters", "[I", true)
  | 1 => ("GrudgeYard$Reader", "length", "I", false)
  | 2 => ("GrudgeYard$Reader", "spot", "I", false)
  | 3 => ("GrudgeYard$Reader", "numberSpot", "I", false)
  | 4 => ("GrudgeYard$Reader", "faultNumber", "I", false)
  | _ => ("GrudgeYard$Reader", "faultSpot", "I", false)
def tyX7 : Nat → FieldType := fun k => match k with
  | 0 => .array .int
  | 1 => .int
  | 2 => .int
  | 3 => .int
  | 4 => .int
  | _ => .int
abbrev wsX70 : List Cond := u_ws RX7 TX7 6
theorem nmX7 : ∀ a, a < 6 → ∀ b, b < 6 → a ≠ b → (TX7 a).2.1 ≠ (TX7 b).2.1 := by decide +kernel
theorem tyX7_ok : ∀ k, k < 6 → parseFieldDescriptor (TX7 k).2.2.1 = some (tyX7 k) := by decide +kernel
abbrev cX7_init : ByteArray := prog_9_method_1_code
def yX7_init : MethodName := ⟨RX7, "<init>", "()V"⟩
abbrev cX7_addLetter : ByteArray := prog_9_method_2_code
def yX7_addLetter : MethodName := ⟨RX7, "addLetter", "(I)Z"⟩
abbrev cX7_readInto : ByteArray := prog_9_method_3_code
def yX7_readInto : MethodName := ⟨RX7, "readInto", "(LGrudgeYard$Yard;)I"⟩
abbrev cX7_readClause : ByteArray := prog_9_method_4_code
def yX7_readClause : MethodName := ⟨RX7, "readClause", "(LGrudgeYard$Yard;)V"⟩
abbrev cX7_isWord : ByteArray := prog_9_method_5_code
def yX7_isWord : MethodName := ⟨RX7, "isWord", "(I)Z"⟩
abbrev cX7_readRoads : ByteArray := prog_9_method_6_code
def yX7_readRoads : MethodName := ⟨RX7, "readRoads", "(LGrudgeYard$Yard;)V"⟩
abbrev cX7_readWagon : ByteArray := prog_9_method_7_code
def yX7_readWagon : MethodName := ⟨RX7, "readWagon", "(LGrudgeYard$Yard;)V"⟩
abbrev cX7_readGrudge : ByteArray := prog_9_method_8_code
def yX7_readGrudge : MethodName := ⟨RX7, "readGrudge", "(LGrudgeYard$Yard;)V"⟩
abbrev cX7_readTrain : ByteArray := prog_9_method_9_code
def yX7_readTrain : MethodName := ⟨RX7, "readTrain", "(LGrudgeYard$Yard;)V"⟩
abbrev cX7_goesOn : ByteArray := prog_9_method_10_code
def yX7_goesOn : MethodName := ⟨RX7, "goesOn", "(I)Z"⟩
abbrev cX7_readNumber : ByteArray := prog_9_method_11_code
def yX7_readNumber : MethodName := ⟨RX7, "readNumber", "(II)I"⟩
abbrev cX7_takes : ByteArray := prog_9_method_12_code
def yX7_takes : MethodName := ⟨RX7, "takes", "(I)Z"⟩
abbrev cX7_atEnd : ByteArray := prog_9_method_13_code
def yX7_atEnd : MethodName := ⟨RX7, "atEnd", "()Z"⟩
abbrev cX7_skipBlanks : ByteArray := prog_9_method_14_code
def yX7_skipBlanks : MethodName := ⟨RX7, "skipBlanks", "()V"⟩
abbrev cX7_letter : ByteArray := prog_9_method_15_code
def yX7_letter : MethodName := ⟨RX7, "letter", "()I"⟩
abbrev cX7_isFigure : ByteArray := prog_9_method_16_code
def yX7_isFigure : MethodName := ⟨RX7, "isFigure", "(I)Z"⟩
abbrev cX7_failed : ByteArray := prog_9_method_17_code
def yX7_failed : MethodName := ⟨RX7, "failed", "()Z"⟩
abbrev cX7_fail : ByteArray := prog_9_method_18_code
def yX7_fail : MethodName := ⟨RX7, "fail", "(II)V"⟩
def RX8 : String := "GrudgeYard$Stand"
def TX8 : u_T := fun k => match k with
  | 0 => ("GrudgeYard$Stand", "wagons", "[I", true)
  | 1 => ("GrudgeYard$Stand", "counts", "[I", true)
  | 2 => ("GrudgeYard$Stand", "peaces", "[I", true)
  | 3 => ("GrudgeYard$Stand", "cuts", "I", false)
  | 4 => ("GrudgeYard$Stand", "kicks", "I", false)
  | _ => ("GrudgeYard$Stand", "firstKick", "I", false)
def tyX8 : Nat → FieldType := fun k => match k with
  | 0 => .array .int
  | 1 => .array .int
  | 2 => .array .int
  | 3 => .int
  | 4 => .int
  | _ => .int
abbrev wsX80 : List Cond := u_ws RX8 TX8 6
theorem nmX8 : ∀ a, a < 6 → ∀ b, b < 6 → a ≠ b → (TX8 a).2.1 ≠ (TX8 b).2.1 := by decide +kernel
theorem tyX8_ok : ∀ k, k < 6 → parseFieldDescriptor (TX8 k).2.2.1 = some (tyX8 k) := by decide +kernel
abbrev cX8_init : ByteArray := prog_10_method_1_code
def yX8_init : MethodName := ⟨RX8, "<init>", "()V"⟩
abbrev cX8_begin : ByteArray := prog_10_method_2_code
def yX8_begin : MethodName := ⟨RX8, "begin", "(I)V"⟩
abbrev cX8_become : ByteArray := prog_10_method_3_code
def yX8_become : MethodName := ⟨RX8, "become", "(LGrudgeYard$Stand;)V"⟩
abbrev cX8_isLine : ByteArray := prog_10_method_4_code
def yX8_isLine : MethodName := ⟨RX8, "isLine", "(I)Z"⟩
abbrev cX8_countOf : ByteArray := prog_10_method_5_code
def yX8_countOf : MethodName := ⟨RX8, "countOf", "(I)I"⟩
abbrev cX8_peaceOf : ByteArray := prog_10_method_6_code
def yX8_peaceOf : MethodName := ⟨RX8, "peaceOf", "(I)I"⟩
abbrev cX8_wagonAt : ByteArray := prog_10_method_7_code
def yX8_wagonAt : MethodName := ⟨RX8, "wagonAt", "(II)I"⟩
abbrev cX8_fromHead : ByteArray := prog_10_method_8_code
def yX8_fromHead : MethodName := ⟨RX8, "fromHead", "(I)I"⟩
abbrev cX8_lastIn : ByteArray := prog_10_method_9_code
def yX8_lastIn : MethodName := ⟨RX8, "lastIn", "(I)I"⟩
abbrev cX8_roadOf : ByteArray := prog_10_method_10_code
def yX8_roadOf : MethodName := ⟨RX8, "roadOf", "(I)I"⟩
abbrev cX8_placeOf : ByteArray := prog_10_method_11_code
def yX8_placeOf : MethodName := ⟨RX8, "placeOf", "(I)I"⟩
abbrev cX8_lineOf : ByteArray := prog_10_method_12_code
def yX8_lineOf : MethodName := ⟨RX8, "lineOf", "(I)I"⟩
abbrev cX8_push : ByteArray := prog_10_method_13_code
def yX8_push : MethodName := ⟨RX8, "push", "(II)V"⟩
abbrev cX8_letDown : ByteArray := prog_10_method_14_code
def yX8_letDown : MethodName := ⟨RX8, "letDown", "(LGrudgeYard$Yard;II)I"⟩
abbrev cX8_countKick : ByteArray := prog_10_method_15_code
def yX8_countKick : MethodName := ⟨RX8, "countKick", "(LGrudgeYard$Yard;II)V"⟩
abbrev cX8_pullUp : ByteArray := prog_10_method_16_code
def yX8_pullUp : MethodName := ⟨RX8, "pullUp", "(I)I"⟩
abbrev cX8_hasPeace : ByteArray := prog_10_method_17_code
def yX8_hasPeace : MethodName := ⟨RX8, "hasPeace", "(II)Z"⟩
abbrev cX8_makePeace : ByteArray := prog_10_method_18_code
def yX8_makePeace : MethodName := ⟨RX8, "makePeace", "(II)V"⟩
abbrev cX8_kicksBehind : ByteArray := prog_10_method_19_code
def yX8_kicksBehind : MethodName := ⟨RX8, "kicksBehind", "(LGrudgeYard$Yard;II)Z"⟩
def RX9 : String := "GrudgeYard$Yard"
def TX9 : u_T := fun k => match k with
  | 0 => ("GrudgeYard$Yard", "rooms", "[I", true)
  | 1 => ("GrudgeYard$Yard", "kinds", "[I", true)
  | 2 => ("GrudgeYard$Yard", "weights", "[I", true)
  | 3 => ("GrudgeYard$Yard", "rusts", "[I", true)
  | 4 => ("GrudgeYard$Yard", "turns", "[I", true)
  | 5 => ("GrudgeYard$Yard", "lastTurns", "[I", true)
  | 6 => ("GrudgeYard$Yard", "roads", "I", false)
  | 7 => ("GrudgeYard$Yard", "wagons", "I", false)
  | 8 => ("GrudgeYard$Yard", "grudges", "I", false)
  | _ => ("GrudgeYard$Yard", "trainLength", "I", false)
def tyX9 : Nat → FieldType := fun k => match k with
  | 0 => .array .int
  | 1 => .array .int
  | 2 => .array .int
  | 3 => .array .int
  | 4 => .array .int
  | 5 => .array .int
  | 6 => .int
  | 7 => .int
  | 8 => .int
  | _ => .int
abbrev wsX90 : List Cond := u_ws RX9 TX9 10
theorem nmX9 : ∀ a, a < 10 → ∀ b, b < 10 → a ≠ b → (TX9 a).2.1 ≠ (TX9 b).2.1 := by decide +kernel
theorem tyX9_ok : ∀ k, k < 10 → parseFieldDescriptor (TX9 k).2.2.1 = some (tyX9 k) := by decide +kernel
abbrev cX9_init : ByteArray := prog_11_method_1_code
def yX9_init : MethodName := ⟨RX9, "<init>", "()V"⟩
abbrev cX9_clear : ByteArray := prog_11_method_2_code
def yX9_clear : MethodName := ⟨RX9, "clear", "()V"⟩
abbrev cX9_isFullOf : ByteArray := prog_11_method_3_code
def yX9_isFullOf : MethodName := ⟨RX9, "isFullOf", "(I)Z"⟩
abbrev cX9_addRoad : ByteArray := prog_11_method_4_code
def yX9_addRoad : MethodName := ⟨RX9, "addRoad", "(I)V"⟩
abbrev cX9_addWagon : ByteArray := prog_11_method_5_code
def yX9_addWagon : MethodName := ⟨RX9, "addWagon", "(III)V"⟩
abbrev cX9_addGrudge : ByteArray := prog_11_method_6_code
def yX9_addGrudge : MethodName := ⟨RX9, "addGrudge", "(II)Z"⟩
abbrev cX9_addToTrain : ByteArray := prog_11_method_7_code
def yX9_addToTrain : MethodName := ⟨RX9, "addToTrain", "(I)Z"⟩
abbrev cX9_hasRoad : ByteArray := prog_11_method_8_code
def yX9_hasRoad : MethodName := ⟨RX9, "hasRoad", "(I)Z"⟩
abbrev cX9_hasWagon : ByteArray := prog_11_method_9_code
def yX9_hasWagon : MethodName := ⟨RX9, "hasWagon", "(I)Z"⟩
abbrev cX9_roomOf : ByteArray := prog_11_method_10_code
def yX9_roomOf : MethodName := ⟨RX9, "roomOf", "(I)I"⟩
abbrev cX9_kindOf : ByteArray := prog_11_method_11_code
def yX9_kindOf : MethodName := ⟨RX9, "kindOf", "(I)I"⟩
abbrev cX9_kindsKick : ByteArray := prog_11_method_12_code
def yX9_kindsKick : MethodName := ⟨RX9, "kindsKick", "(II)Z"⟩
abbrev cX9_kickBy : ByteArray := prog_11_method_13_code
def yX9_kickBy : MethodName := ⟨RX9, "kickBy", "(III)Z"⟩
abbrev cX9_speedOf : ByteArray := prog_11_method_14_code
def yX9_speedOf : MethodName := ⟨RX9, "speedOf", "(I)I"⟩
abbrev cX9_timeOf : ByteArray := prog_11_method_15_code
def yX9_timeOf : MethodName := ⟨RX9, "timeOf", "(II)I"⟩
abbrev cX9_sortingRoad : ByteArray := prog_11_method_16_code
def yX9_sortingRoad : MethodName := ⟨RX9, "sortingRoad", "(I)I"⟩
abbrev cX9_firstRoadFor : ByteArray := prog_11_method_17_code
def yX9_firstRoadFor : MethodName := ⟨RX9, "firstRoadFor", "(II)I"⟩
abbrev cX9_pairBit : ByteArray := prog_11_method_18_code
def yX9_pairBit : MethodName := ⟨RX9, "pairBit", "(II)I"⟩
def RX10 : String := "GrudgeYard"
def TX10 : u_T := fun k => match k with
  | 0 => ("GrudgeYard", "reader", "LGrudgeYard$Reader;", true)
  | 1 => ("GrudgeYard", "now", "LGrudgeYard$Stand;", true)
  | 2 => ("GrudgeYard", "past", "LGrudgeYard$Past;", true)
  | 3 => ("GrudgeYard", "firstImage", "LGrudgeYard$Image;", true)
  | 4 => ("GrudgeYard", "secondImage", "LGrudgeYard$Image;", true)
  | 5 => ("GrudgeYard", "couplings", "LGrudgeYard$Couplings;", true)
  | 6 => ("GrudgeYard", "chalked", "LGrudgeYard$Notes;", true)
  | 7 => ("GrudgeYard", "book", "LGrudgeYard$Notes;", true)
  | 8 => ("GrudgeYard", "board", "LGrudgeYard$Board;", true)
  | 9 => ("GrudgeYard", "planner", "LGrudgeYard$Planner;", true)
  | 10 => ("GrudgeYard", "fitting", "LGrudgeYard$Fitting;", true)
  | 11 => ("GrudgeYard", "yardNow", "LGrudgeYard$Yard;", false)
  | 12 => ("GrudgeYard", "draft", "LGrudgeYard$Yard;", false)
  | _ => ("GrudgeYard", "seedNow", "I", false)
def tyX10 : Nat → FieldType := fun k => match k with
  | 0 => .object "GrudgeYard$Reader"
  | 1 => .object "GrudgeYard$Stand"
  | 2 => .object "GrudgeYard$Past"
  | 3 => .object "GrudgeYard$Image"
  | 4 => .object "GrudgeYard$Image"
  | 5 => .object "GrudgeYard$Couplings"
  | 6 => .object "GrudgeYard$Notes"
  | 7 => .object "GrudgeYard$Notes"
  | 8 => .object "GrudgeYard$Board"
  | 9 => .object "GrudgeYard$Planner"
  | 10 => .object "GrudgeYard$Fitting"
  | 11 => .object "GrudgeYard$Yard"
  | 12 => .object "GrudgeYard$Yard"
  | _ => .int
abbrev wsX100 : List Cond := u_ws RX10 TX10 14
theorem nmX10 : ∀ a, a < 14 → ∀ b, b < 14 → a ≠ b → (TX10 a).2.1 ≠ (TX10 b).2.1 := by decide +kernel
theorem tyX10_ok : ∀ k, k < 14 → parseFieldDescriptor (TX10 k).2.2.1 = some (tyX10 k) := by decide +kernel
abbrev cX10_init : ByteArray := prog_1_method_1_code
def yX10_init : MethodName := ⟨RX10, "<init>", "()V"⟩
abbrev cX10_feed : ByteArray := prog_1_method_2_code
def yX10_feed : MethodName := ⟨RX10, "feed", "(I)I"⟩
abbrev cX10_yard : ByteArray := prog_1_method_3_code
def yX10_yard : MethodName := ⟨RX10, "yard", "()I"⟩
abbrev cX10_fault : ByteArray := prog_1_method_4_code
def yX10_fault : MethodName := ⟨RX10, "fault", "()I"⟩
abbrev cX10_told : ByteArray := prog_1_method_5_code
def yX10_told : MethodName := ⟨RX10, "told", "(I)I"⟩
abbrev cX10_wagon : ByteArray := prog_1_method_6_code
def yX10_wagon : MethodName := ⟨RX10, "wagon", "(II)I"⟩
abbrev cX10_road : ByteArray := prog_1_method_7_code
def yX10_road : MethodName := ⟨RX10, "road", "(II)I"⟩
abbrev cX10_at : ByteArray := prog_1_method_8_code
def yX10_at : MethodName := ⟨RX10, "at", "(II)I"⟩
abbrev cX10_enemies : ByteArray := prog_1_method_9_code
def yX10_enemies : MethodName := ⟨RX10, "enemies", "(II)I"⟩
abbrev cX10_cut : ByteArray := prog_1_method_10_code
def yX10_cut : MethodName := ⟨RX10, "cut", "(II)I"⟩
abbrev cX10_pull : ByteArray := prog_1_method_11_code
def yX10_pull : MethodName := ⟨RX10, "pull", "(I)I"⟩
abbrev cX10_peace : ByteArray := prog_1_method_12_code
def yX10_peace : MethodName := ⟨RX10, "peace", "(II)I"⟩
abbrev cX10_drift : ByteArray := prog_1_method_13_code
def yX10_drift : MethodName := ⟨RX10, "drift", "(I)I"⟩
abbrev cX10_driftOnce : ByteArray := prog_1_method_14_code
def yX10_driftOnce : MethodName := ⟨RX10, "driftOnce", "(I)V"⟩
abbrev cX10_undo : ByteArray := prog_1_method_15_code
def yX10_undo : MethodName := ⟨RX10, "undo", "()I"⟩
abbrev cX10_plan : ByteArray := prog_1_method_16_code
def yX10_plan : MethodName := ⟨RX10, "plan", "(I)I"⟩
abbrev cX10_leastRoads : ByteArray := prog_1_method_17_code
def yX10_leastRoads : MethodName := ⟨RX10, "leastRoads", "(I)I"⟩
abbrev cX10_safe : ByteArray := prog_1_method_18_code
def yX10_safe : MethodName := ⟨RX10, "safe", "(III)I"⟩
abbrev cX10_foremen : ByteArray := prog_1_method_19_code
def yX10_foremen : MethodName := ⟨RX10, "foremen", "(I)I"⟩
abbrev cX10_foremenKicks : ByteArray := prog_1_method_20_code
def yX10_foremenKicks : MethodName := ⟨RX10, "foremenKicks", "(LGrudgeYard$Board;II)I"⟩
abbrev cX10_fewest : ByteArray := prog_1_method_21_code
def yX10_fewest : MethodName := ⟨RX10, "fewest", "(I)I"⟩
abbrev cX10_rusted : ByteArray := prog_1_method_22_code
def yX10_rusted : MethodName := ⟨RX10, "rusted", "(II)I"⟩
abbrev cX10_couple : ByteArray := prog_1_method_23_code
def yX10_couple : MethodName := ⟨RX10, "couple", "(IIZ)I"⟩
abbrev cX10_laws : ByteArray := prog_1_method_24_code
def yX10_laws : MethodName := ⟨RX10, "laws", "(I)I"⟩
abbrev cX10_next : ByteArray := prog_1_method_25_code
def yX10_next : MethodName := ⟨RX10, "next", "()I"⟩
abbrev cX10_chalk : ByteArray := prog_1_method_26_code
def yX10_chalk : MethodName := ⟨RX10, "chalk", "(III)I"⟩
abbrev cX10_fit : ByteArray := prog_1_method_27_code
def yX10_fit : MethodName := ⟨RX10, "fit", "(I)I"⟩
abbrev cX10_write : ByteArray := prog_1_method_28_code
def yX10_write : MethodName := ⟨RX10, "write", "(III)I"⟩
abbrev cX10_addNote : ByteArray := prog_1_method_29_code
def yX10_addNote : MethodName := ⟨RX10, "addNote", "(LGrudgeYard$Notes;III)I"⟩
abbrev cX10_tear : ByteArray := prog_1_method_30_code
def yX10_tear : MethodName := ⟨RX10, "tear", "()I"⟩
abbrev cX10_tearAll : ByteArray := prog_1_method_31_code
def yX10_tearAll : MethodName := ⟨RX10, "tearAll", "()V"⟩
abbrev cX10_judge : ByteArray := prog_1_method_32_code
def yX10_judge : MethodName := ⟨RX10, "judge", "()I"⟩
abbrev cX10_seed : ByteArray := prog_1_method_33_code
def yX10_seed : MethodName := ⟨RX10, "seed", "(I)I"⟩
abbrev cX10_draw : ByteArray := prog_1_method_34_code
def yX10_draw : MethodName := ⟨RX10, "draw", "(I)I"⟩
abbrev cX10_keep : ByteArray := prog_1_method_35_code
def yX10_keep : MethodName := ⟨RX10, "keep", "(I)I"⟩
abbrev cX10_goBack : ByteArray := prog_1_method_36_code
def yX10_goBack : MethodName := ⟨RX10, "goBack", "(I)I"⟩
abbrev cX10_imageOf : ByteArray := prog_1_method_37_code
def yX10_imageOf : MethodName := ⟨RX10, "imageOf", "(I)LGrudgeYard$Image;"⟩
abbrev cX10_isKind : ByteArray := prog_1_method_38_code
def yX10_isKind : MethodName := ⟨RX10, "isKind", "(I)Z"⟩
def RX11 : String := "GrudgeYardModel"
def TX11 : u_T := fun k => match k with
  | 0 => ("GrudgeYardModel", "yard", "[I", true)
  | 1 => ("GrudgeYardModel", "read", "[I", true)
  | 2 => ("GrudgeYardModel", "now", "[I", true)
  | 3 => ("GrudgeYardModel", "past", "[I", true)
  | 4 => ("GrudgeYardModel", "undos", "I", false)
  | 5 => ("GrudgeYardModel", "images", "[I", true)
  | 6 => ("GrudgeYardModel", "kept", "[Z", true)
  | 7 => ("GrudgeYardModel", "seed", "J", false)
  | 8 => ("GrudgeYardModel", "text", "[I", true)
  | 9 => ("GrudgeYardModel", "size", "I", false)
  | 10 => ("GrudgeYardModel", "fault", "I", false)
  | 11 => ("GrudgeYardModel", "tries", "[I", true)
  | 12 => ("GrudgeYardModel", "triesMany", "I", false)
  | 13 => ("GrudgeYardModel", "chalk", "[I", true)
  | 14 => ("GrudgeYardModel", "chalkMany", "I", false)
  | 15 => ("GrudgeYardModel", "book", "[I", true)
  | 16 => ("GrudgeYardModel", "bookMany", "I", false)
  | 17 => ("GrudgeYardModel", "at", "I", false)
  | 18 => ("GrudgeYardModel", "begin", "I", false)
  | 19 => ("GrudgeYardModel", "sign", "I", false)
  | 20 => ("GrudgeYardModel", "figures", "I", false)
  | 21 => ("GrudgeYardModel", "value", "I", false)
  | 22 => ("GrudgeYardModel", "wrong", "I", false)
  | 23 => ("GrudgeYardModel", "row", "[I", true)
  | 24 => ("GrudgeYardModel", "best", "[I", true)
  | 25 => ("GrudgeYardModel", "longs", "[I", true)
  | 26 => ("GrudgeYardModel", "last", "[I", true)
  | 27 => ("GrudgeYardModel", "theirs", "[I", true)
  | 28 => ("GrudgeYardModel", "places", "[I", true)
  | 29 => ("GrudgeYardModel", "rises", "[I", true)
  | 30 => ("GrudgeYardModel", "stepLongs", "[I", true)
  | 31 => ("GrudgeYardModel", "stepLast", "[I", true)
  | 32 => ("GrudgeYardModel", "stepKicks", "[I", true)
  | 33 => ("GrudgeYardModel", "stepTried", "[I", true)
  | 34 => ("GrudgeYardModel", "stepBest", "[I", true)
  | _ => ("GrudgeYardModel", "stands", "[I", true)
def tyX11 : Nat → FieldType := fun k => match k with
  | 0 => .array .int
  | 1 => .array .int
  | 2 => .array .int
  | 3 => .array .int
  | 4 => .int
  | 5 => .array .int
  | 6 => .array .boolean
  | 7 => .long
  | 8 => .array .int
  | 9 => .int
  | 10 => .int
  | 11 => .array .int
  | 12 => .int
  | 13 => .array .int
  | 14 => .int
  | 15 => .array .int
  | 16 => .int
  | 17 => .int
  | 18 => .int
  | 19 => .int
  | 20 => .int
  | 21 => .int
  | 22 => .int
  | 23 => .array .int
  | 24 => .array .int
  | 25 => .array .int
  | 26 => .array .int
  | 27 => .array .int
  | 28 => .array .int
  | 29 => .array .int
  | 30 => .array .int
  | 31 => .array .int
  | 32 => .array .int
  | 33 => .array .int
  | 34 => .array .int
  | _ => .array .int
abbrev wsX110 : List Cond := u_ws RX11 TX11 36
theorem nmX11 : ∀ a, a < 36 → ∀ b, b < 36 → a ≠ b → (TX11 a).2.1 ≠ (TX11 b).2.1 := by decide +kernel
theorem tyX11_ok : ∀ k, k < 36 → parseFieldDescriptor (TX11 k).2.2.1 = some (tyX11 k) := by decide +kernel
abbrev cX11_init : ByteArray := prog_13_method_1_code
def yX11_init : MethodName := ⟨RX11, "<init>", "()V"⟩
abbrev cX11_in : ByteArray := prog_13_method_3_code
def yX11_in : MethodName := ⟨RX11, "in", "(JJJ)Z"⟩
abbrev cX11_has : ByteArray := prog_13_method_4_code
def yX11_has : MethodName := ⟨RX11, "has", "(II)Z"⟩
abbrev cX11_begins : ByteArray := prog_13_method_6_code
def yX11_begins : MethodName := ⟨RX11, "begins", "()V"⟩
abbrev cX11_feed : ByteArray := prog_13_method_7_code
def yX11_feed : MethodName := ⟨RX11, "feed", "(I)I"⟩
abbrev cX11_here : ByteArray := prog_13_method_8_code
def yX11_here : MethodName := ⟨RX11, "here", "()I"⟩
abbrev cX11_step : ByteArray := prog_13_method_9_code
def yX11_step : MethodName := ⟨RX11, "step", "()V"⟩
abbrev cX11_fails : ByteArray := prog_13_method_10_code
def yX11_fails : MethodName := ⟨RX11, "fails", "(I)Z"⟩
abbrev cX11_number : ByteArray := prog_13_method_11_code
def yX11_number : MethodName := ⟨RX11, "number", "(III)Z"⟩
abbrev cX11_ends : ByteArray := prog_13_method_12_code
def yX11_ends : MethodName := ⟨RX11, "ends", "()Z"⟩
abbrev cX11_readsRoads : ByteArray := prog_13_method_13_code
def yX11_readsRoads : MethodName := ⟨RX11, "readsRoads", "()Z"⟩
abbrev cX11_readsWagon : ByteArray := prog_13_method_14_code
def yX11_readsWagon : MethodName := ⟨RX11, "readsWagon", "()Z"⟩
abbrev cX11_readsEnemies : ByteArray := prog_13_method_15_code
def yX11_readsEnemies : MethodName := ⟨RX11, "readsEnemies", "()Z"⟩
abbrev cX11_readsTrain : ByteArray := prog_13_method_16_code
def yX11_readsTrain : MethodName := ⟨RX11, "readsTrain", "()Z"⟩
abbrev cX11_readsClause : ByteArray := prog_13_method_17_code
def yX11_readsClause : MethodName := ⟨RX11, "readsClause", "()Z"⟩
abbrev cX11_yard : ByteArray := prog_13_method_18_code
def yX11_yard : MethodName := ⟨RX11, "yard", "()I"⟩
abbrev cX11_fault : ByteArray := prog_13_method_19_code
def yX11_fault : MethodName := ⟨RX11, "fault", "()I"⟩
abbrev cX11_isWagon : ByteArray := prog_13_method_20_code
def yX11_isWagon : MethodName := ⟨RX11, "isWagon", "(I)Z"⟩
abbrev cX11_isRoad : ByteArray := prog_13_method_21_code
def yX11_isRoad : MethodName := ⟨RX11, "isRoad", "(I)Z"⟩
abbrev cX11_isKind : ByteArray := prog_13_method_22_code
def yX11_isKind : MethodName := ⟨RX11, "isKind", "(I)Z"⟩
abbrev cX11_told : ByteArray := prog_13_method_23_code
def yX11_told : MethodName := ⟨RX11, "told", "(I)I"⟩
abbrev cX11_placeOf : ByteArray := prog_13_method_24_code
def yX11_placeOf : MethodName := ⟨RX11, "placeOf", "([IIII)I"⟩
abbrev cX11_roadOf : ByteArray := prog_13_method_25_code
def yX11_roadOf : MethodName := ⟨RX11, "roadOf", "(I)I"⟩
abbrev cX11_speed : ByteArray := prog_13_method_26_code
def yX11_speed : MethodName := ⟨RX11, "speed", "(I)I"⟩
abbrev cX11_wagon : ByteArray := prog_13_method_27_code
def yX11_wagon : MethodName := ⟨RX11, "wagon", "(II)I"⟩
abbrev cX11_road : ByteArray := prog_13_method_28_code
def yX11_road : MethodName := ⟨RX11, "road", "(II)I"⟩
abbrev cX11_at : ByteArray := prog_13_method_29_code
def yX11_at : MethodName := ⟨RX11, "at", "(II)I"⟩
abbrev cX11_areEnemies : ByteArray := prog_13_method_30_code
def yX11_areEnemies : MethodName := ⟨RX11, "areEnemies", "(II)Z"⟩
abbrev cX11_enemies : ByteArray := prog_13_method_31_code
def yX11_enemies : MethodName := ⟨RX11, "enemies", "(II)I"⟩
abbrev cX11_kick : ByteArray := prog_13_method_32_code
def yX11_kick : MethodName := ⟨RX11, "kick", "(II)Z"⟩
abbrev cX11_copies : ByteArray := prog_13_method_33_code
def yX11_copies : MethodName := ⟨RX11, "copies", "([II[II)V"⟩
abbrev cX11_remember : ByteArray := prog_13_method_34_code
def yX11_remember : MethodName := ⟨RX11, "remember", "()V"⟩
abbrev cX11_mayCut : ByteArray := prog_13_method_35_code
def yX11_mayCut : MethodName := ⟨RX11, "mayCut", "(II)Z"⟩
abbrev cX11_cuts : ByteArray := prog_13_method_36_code
def yX11_cuts : MethodName := ⟨RX11, "cuts", "(II)I"⟩
abbrev cX11_cut : ByteArray := prog_13_method_37_code
def yX11_cut : MethodName := ⟨RX11, "cut", "(II)I"⟩
abbrev cX11_pulls : ByteArray := prog_13_method_38_code
def yX11_pulls : MethodName := ⟨RX11, "pulls", "(I)I"⟩
abbrev cX11_pull : ByteArray := prog_13_method_39_code
def yX11_pull : MethodName := ⟨RX11, "pull", "(I)I"⟩
abbrev cX11_peace : ByteArray := prog_13_method_40_code
def yX11_peace : MethodName := ⟨RX11, "peace", "(II)I"⟩
abbrev cX11_draw : ByteArray := prog_13_method_41_code
def yX11_draw : MethodName := ⟨RX11, "draw", "(I)I"⟩
abbrev cX11_drift : ByteArray := prog_13_method_42_code
def yX11_drift : MethodName := ⟨RX11, "drift", "(I)I"⟩
abbrev cX11_undo : ByteArray := prog_13_method_43_code
def yX11_undo : MethodName := ⟨RX11, "undo", "()I"⟩
abbrev cX11_codes : ByteArray := prog_13_method_44_code
def yX11_codes : MethodName := ⟨RX11, "codes", "()I"⟩
abbrev cX11_layRow : ByteArray := prog_13_method_45_code
def yX11_layRow : MethodName := ⟨RX11, "layRow", "(III)V"⟩
abbrev cX11_layRoads : ByteArray := prog_13_method_46_code
def yX11_layRoads : MethodName := ⟨RX11, "layRoads", "()V"⟩
abbrev cX11_costs : ByteArray := prog_13_method_47_code
def yX11_costs : MethodName := ⟨RX11, "costs", "()I"⟩
abbrev cX11_plan : ByteArray := prog_13_method_48_code
def yX11_plan : MethodName := ⟨RX11, "plan", "(I)I"⟩
abbrev cX11_layTrain : ByteArray := prog_13_method_49_code
def yX11_layTrain : MethodName := ⟨RX11, "layTrain", "()I"⟩
abbrev cX11_draws : ByteArray := prog_13_method_50_code
def yX11_draws : MethodName := ⟨RX11, "draws", "()Z"⟩
abbrev cX11_leastRoads : ByteArray := prog_13_method_51_code
def yX11_leastRoads : MethodName := ⟨RX11, "leastRoads", "(I)I"⟩
abbrev cX11_safe : ByteArray := prog_13_method_52_code
def yX11_safe : MethodName := ⟨RX11, "safe", "(III)I"⟩
abbrev cX11_beginsStep : ByteArray := prog_13_method_53_code
def yX11_beginsStep : MethodName := ⟨RX11, "beginsStep", "(I)V"⟩
abbrev cX11_weighs : ByteArray := prog_13_method_54_code
def yX11_weighs : MethodName := ⟨RX11, "weighs", "(II)V"⟩
abbrev cX11_goes : ByteArray := prog_13_method_55_code
def yX11_goes : MethodName := ⟨RX11, "goes", "(I)Z"⟩
abbrev cX11_foremen : ByteArray := prog_13_method_56_code
def yX11_foremen : MethodName := ⟨RX11, "foremen", "(I)I"⟩
abbrev cX11_fewest : ByteArray := prog_13_method_57_code
def yX11_fewest : MethodName := ⟨RX11, "fewest", "(I)I"⟩
abbrev cX11_rusted : ByteArray := prog_13_method_58_code
def yX11_rusted : MethodName := ⟨RX11, "rusted", "(II)I"⟩
abbrev cX11_couple : ByteArray := prog_13_method_59_code
def yX11_couple : MethodName := ⟨RX11, "couple", "(IIZ)I"⟩
abbrev cX11_triedOf : ByteArray := prog_13_method_60_code
def yX11_triedOf : MethodName := ⟨RX11, "triedOf", "(II)I"⟩
abbrev cX11_laws : ByteArray := prog_13_method_61_code
def yX11_laws : MethodName := ⟨RX11, "laws", "(I)I"⟩
abbrev cX11_next : ByteArray := prog_13_method_62_code
def yX11_next : MethodName := ⟨RX11, "next", "()I"⟩
abbrev cX11_chalk : ByteArray := prog_13_method_63_code
def yX11_chalk : MethodName := ⟨RX11, "chalk", "(III)I"⟩
abbrev cX11_fits : ByteArray := prog_13_method_64_code
def yX11_fits : MethodName := ⟨RX11, "fits", "()Z"⟩
abbrev cX11_fit : ByteArray := prog_13_method_65_code
def yX11_fit : MethodName := ⟨RX11, "fit", "(I)I"⟩
abbrev cX11_write : ByteArray := prog_13_method_66_code
def yX11_write : MethodName := ⟨RX11, "write", "(III)I"⟩
abbrev cX11_tear : ByteArray := prog_13_method_67_code
def yX11_tear : MethodName := ⟨RX11, "tear", "()I"⟩
abbrev cX11_judge : ByteArray := prog_13_method_68_code
def yX11_judge : MethodName := ⟨RX11, "judge", "()I"⟩
abbrev cX11_seed : ByteArray := prog_13_method_69_code
def yX11_seed : MethodName := ⟨RX11, "seed", "(I)I"⟩
abbrev cX11_keep : ByteArray := prog_13_method_70_code
def yX11_keep : MethodName := ⟨RX11, "keep", "(I)I"⟩
abbrev cX11_goBack : ByteArray := prog_13_method_71_code
def yX11_goBack : MethodName := ⟨RX11, "goBack", "(I)I"⟩
def RJ6 : String := "java/lang/Integer"
def TJ6 : u_T := fun k => match k with
  | _ => ("", "", "", false)
def tyJ6 : Nat → FieldType := fun k => match k with
  | _ => .int
abbrev wsJ60 : List Cond := u_ws RJ6 TJ6 0
theorem nmJ6 : ∀ a, a < 0 → ∀ b, b < 0 → a ≠ b → (TJ6 a).2.1 ≠ (TJ6 b).2.1 := by decide +kernel
theorem tyJ6_ok : ∀ k, k < 0 → parseFieldDescriptor (TJ6 k).2.2.1 = some (tyJ6 k) := by decide +kernel
abbrev cJ6_numberOfTrailingZeros_0f7a4 : ByteArray := prog_14_method_48_code
def yJ6_numberOfTrailingZeros_0f7a4 : MethodName := ⟨RJ6, "numberOfTrailingZeros", "(I)I"⟩
abbrev cJ6_bitCount_0f7a4 : ByteArray := prog_14_method_49_code
def yJ6_bitCount_0f7a4 : MethodName := ⟨RJ6, "bitCount", "(I)I"⟩
def RJ9 : String := "java/lang/Math"
def TJ9 : u_T := fun k => match k with
  | _ => ("", "", "", false)
def tyJ9 : Nat → FieldType := fun k => match k with
  | _ => .int
abbrev wsJ90 : List Cond := u_ws RJ9 TJ9 0
theorem nmJ9 : ∀ a, a < 0 → ∀ b, b < 0 → a ≠ b → (TJ9 a).2.1 ≠ (TJ9 b).2.1 := by decide +kernel
theorem tyJ9_ok : ∀ k, k < 0 → parseFieldDescriptor (TJ9 k).2.2.1 = some (tyJ9 k) := by decide +kernel
abbrev cJ9_max_7cf53 : ByteArray := prog_15_method_65_code
def yJ9_max_7cf53 : MethodName := ⟨RJ9, "max", "(II)I"⟩
abbrev cJ9_min_7cf53 : ByteArray := prog_15_method_69_code
def yJ9_min_7cf53 : MethodName := ⟨RJ9, "min", "(II)I"⟩
def RJ10 : String := "java/lang/System"
def TJ10 : u_T := fun k => match k with
  | _ => ("", "", "", false)
def tyJ10 : Nat → FieldType := fun k => match k with
  | _ => .int
abbrev wsJ100 : List Cond := u_ws RJ10 TJ10 0
theorem nmJ10 : ∀ a, a < 0 → ∀ b, b < 0 → a ≠ b → (TJ10 a).2.1 ≠ (TJ10 b).2.1 := by decide +kernel
theorem tyJ10_ok : ∀ k, k < 0 → parseFieldDescriptor (TJ10 k).2.2.1 = some (tyJ10 k) := by decide +kernel
def RJ7 : String := "java/util/Arrays"
def TJ7 : u_T := fun k => match k with
  | _ => ("", "", "", false)
def tyJ7 : Nat → FieldType := fun k => match k with
  | _ => .int
abbrev wsJ70 : List Cond := u_ws RJ7 TJ7 0
theorem nmJ7 : ∀ a, a < 0 → ∀ b, b < 0 → a ≠ b → (TJ7 a).2.1 ≠ (TJ7 b).2.1 := by decide +kernel
theorem tyJ7_ok : ∀ k, k < 0 → parseFieldDescriptor (TJ7 k).2.2.1 = some (tyJ7 k) := by decide +kernel
abbrev cJ7_fill_53178 : ByteArray := prog_17_method_103_code
def yJ7_fill_53178 : MethodName := ⟨RJ7, "fill", "([II)V"⟩
def RL : String := "GrudgeYardLaw"
abbrev cL_law : ByteArray := code
def yL_law : MethodName := ⟨RL, "law", "([I)Z"⟩
abbrev classes : List vw_C := [(RX0, TX0, 7), (RX1, TX1, 3), (RX2, TX2, 3), (RX3, TX3, 3), (RX4, TX4, 4), (RX5, TX5, 3), (RX6, TX6, 4), (RX7, TX7, 6), (RX8, TX8, 6), (RX9, TX9, 10), (RX10, TX10, 14), (RX11, TX11, 36)]
def tcl : List (List Nat) := [[2, 2, 2, 2, 0, 0, 0], [0, 0, 0], [2, 2, 2], [2, 0, 0], [2, 2, 2, 0], [2, 0, 0], [2, 2, 0, 0], [2, 0, 0, 0, 0, 0], [2, 2, 2, 0, 0, 0], [2, 2, 2, 2, 2, 2, 0, 0, 0, 0], [2, 2, 2, 2, 2, 2, 2, 2, 2, 2, 2, 2, 2, 0], [2, 2, 2, 2, 0, 2, 2, 1, 2, 0, 0, 2, 0, 2, 0, 2, 0, 0, 0, 0, 0, 0, 0, 2, 2, 2, 2, 2, 2, 2, 2, 2, 2, 2, 2, 2]]
def lw_good : List Cond := lw_tbl.filter goodWord
def isNest : Cond → Bool
  | .fieldLinkNest _ _ _ _ _ _ => true
  | .methodLinkNest _ _ _ _ => true
  | _ => false
def lw_nest : List Cond := lw_tbl.filter isNest
theorem gm {w : Cond} (i : Nat) (h : lw_tbl[i]? = some w) (hg : goodWord w = true) : w ∈ lw_good := List.mem_filter.mpr ⟨List.mem_of_getElem? h, hg⟩
theorem nm_ {w : Cond} (i : Nat) (h : lw_tbl[i]? = some w) (hg : isNest w = true) : w ∈ lw_nest := List.mem_filter.mpr ⟨List.mem_of_getElem? h, hg⟩
